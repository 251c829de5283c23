abbrev rX3_init : Room := { frames := 1, cells := 0, slots := 0, locals := 12 }
theorem inX3_init_X3 : ∀ w ∈ wsX30, w ∈ wsX3_init := fun w h => List.mem_cons_of_mem _ (List.mem_append_right _ h)
set_option maxHeartbeats 400000 in
set_option maxRecDepth 100000 in
theorem c_X3_init {l : Launch} {D : va_G} {cT : Nat → ClassId} {b : Nat} {S : List Nat} {ad : Nat → Nat} {E : Nat → va_E} {p0 : Nat} (hp : S[p0]? = some 1) (hS : ∀ k, k < 0 → k ∉ S) (hE : E 1 = .inr (3, [.int 0, .int 0])) : Met l yX3_init wsX3_init rX3_init (va_Pc [.ref (ad 1)] (yPre D cT b S ad E)) (yQ D cT b S (fun u => (∀ k, ¬ (k < 0) → u.1 k = ad k) ∧ (∀ k, ¬ (k < 0) → k ≠ 1 → u.2 k = E k) ∧ ∀ k, (k = 1 ∨ k < 0) → u.2 k = xF cT u.1 (xA0 k) (xL0 k) k)) 0 0 (yA b) := by
  refine y_met RX3 rfl (by decide) rfl (Nat.le_of_ble_eq_true rfl) (fun p e s m below meth c ls hx hb hr hts hown hml hlocks hin hK hw hl => ?_)
  have hl : lv_has ls 1 [(0, .ref (ad 1))] := hl
  refine lv_aload_n hx hb dX3_init_0 rfl (lv_at hl 0 rfl) ?_
  refine W.objInit hx hb hown (hts (.methodLink RX3 3 objectInit) (List.mem_of_getElem? (i := 1) rfl)) (hts (.instanceMethod objectInit) (List.mem_of_getElem? (i := 2) rfl)) (hts (.code objectInit ⟨#[0xb1]⟩ 1 none) (List.mem_of_getElem? (i := 3) rfl)) rfl (by rw [hml]; exact hl.1) rfl dX3_init_1 (Nat.le_of_ble_eq_true rfl) (Nat.le_of_ble_eq_true rfl) ?_
  refine W.eq (g2 := F0 m 4 ls []) rfl ?_
  refine lv_aload_n hx hb dX3_init_4 rfl (lv_at hl 0 rfl) ?_
  refine lv_bipush (v := 15) hx hb dX3_init_5 (by decide) ?_
  refine y_put (v := .int 15) (C := RX3) (T := TX3) (N := 2) hx hb hts inX3_init_X3 tyX3 tyX3_ok nmX3 hown hK hw hp rfl hE rfl 0 (by decide) (hts (.fieldLink RX3 9 "SixNumbers$Rules" "acts" "I") (List.mem_of_getElem? (i := 4) rfl)) (fun _ h9 => h9) rfl (ty := .int) (by decide +kernel) rfl rfl (Nat.le_of_ble_eq_true rfl) dX3_init_7 (fun E1 H locs ee1 hw => ?_)
  have hE1 : E1 1 = .inr (3, [.int 15, .int 0]) := by rw [ee1, va_up_self]; rfl
  refine lv_aload_n hx hb dX3_init_10 rfl (lv_at hl 0 rfl) ?_
  refine lv_sipush (v := 3000) hx hb dX3_init_11 (by decide) ?_
  refine y_put (v := .int 3000) (C := RX3) (T := TX3) (N := 2) hx hb hts inX3_init_X3 tyX3 tyX3_ok nmX3 hown hK hw hp rfl hE1 rfl 1 (by decide) (hts (.fieldLink RX3 15 "SixNumbers$Rules" "most" "I") (List.mem_of_getElem? (i := 5) rfl)) (fun _ h9 => h9) rfl (ty := .int) (by decide +kernel) rfl rfl (Nat.le_of_ble_eq_true rfl) dX3_init_14 (fun E2 H locs ee2 hw => ?_)
  have hE2 : E2 1 = .inr (3, [.int 15, .int 3000]) := by rw [ee2, va_up_self]; rfl
  refine y_vret hx hb hr hlocks hK hw ?_ dX3_init_17
  subst ee1 ee2
  refine ⟨fun k hk => ?_, fun k hk hk0 => ?_, fun k hk => ?_⟩
  · dsimp only
  · dsimp only
    rw [va_up_ne _ _ (show k ≠ 1 by omega)]
    rw [va_up_ne _ _ (show k ≠ 1 by omega)]
  · rcases hk with hk | hk
    · subst hk
      dsimp only
      rw [va_up_self]
      rfl
    · omega
abbrev rX2_init : Room := { frames := 1, cells := 1, slots := 33, locals := 12 }
theorem inX2_init_X2 : ∀ w ∈ wsX20, w ∈ wsX2_init := fun w h => List.mem_cons_of_mem _ (List.mem_append_right _ h)
set_option maxHeartbeats 400000 in
set_option maxRecDepth 100000 in
theorem c_X2_init {l : Launch} {D : va_G} {cT : Nat → ClassId} {b : Nat} {S : List Nat} {ad : Nat → Nat} {E : Nat → va_E} {p0 : Nat} (hp : S[p0]? = some 18) (hS : ∀ k, k = 19 → k ∉ S) (hE : E 18 = .inr (2, [.null, .int 0])) : Met l yX2_init wsX2_init rX2_init (va_Pc [.ref (ad 18)] (yPre D cT b S ad E)) (yQ D cT b (S ++ [19]) (fun u => (∀ k, ¬ (k = 19) → u.1 k = ad k) ∧ (∀ k, ¬ (k = 19) → k ≠ 18 → u.2 k = E k) ∧ ∀ k, (k = 18 ∨ k = 19) → u.2 k = xF cT u.1 (xA0 k) (xL0 k) k)) 1 33 (yA b) := by
  refine y_met RX2 rfl (by decide) rfl (Nat.le_of_ble_eq_true rfl) (fun p e s m below meth c ls hx hb hr hts hown hml hlocks hin hK hw hl => ?_)
  have hl : lv_has ls 1 [(0, .ref (ad 18))] := hl
  refine lv_aload_n hx hb dX2_init_0 rfl (lv_at hl 0 rfl) ?_
  refine W.objInit hx hb hown (hts (.methodLink RX2 3 objectInit) (List.mem_of_getElem? (i := 1) rfl)) (hts (.instanceMethod objectInit) (List.mem_of_getElem? (i := 2) rfl)) (hts (.code objectInit ⟨#[0xb1]⟩ 1 none) (List.mem_of_getElem? (i := 3) rfl)) rfl (by rw [hml]; exact hl.1) rfl dX2_init_1 (Nat.le_of_ble_eq_true rfl) (Nat.le_of_ble_eq_true rfl) ?_
  refine W.eq (g2 := F0 m 4 ls []) rfl ?_
  refine lv_aload_n hx hb dX2_init_4 rfl (lv_at hl 0 rfl) ?_
  refine lv_bipush (v := 33) hx hb dX2_init_5 (by decide) ?_
  refine y_newa (atype := .char) hx hb (hts (.arrayClass .char) (List.mem_of_getElem? (i := 4) rfl)) rfl hK hw 19 (hS 19 (by omega)) 2 rfl (fun cA h1 h2 => Option.some.inj (h1.symm.trans h2)) (N' := 33) (a0 := (33, .inl (fun _ => 0))) (fun cA => rfl) (by decide) (by decide) (Nat.le_of_ble_eq_true rfl) (Nat.le_of_ble_eq_true rfl) (Nat.le_of_ble_eq_true rfl) dX2_init_7 (fun q1 ad1 E1 H ea1 ee1 hw => ?_)
  refine W.widen (k := 1) (n := 33) (Nat.le_of_ble_eq_true rfl) (Nat.le_of_ble_eq_true rfl) ?_
  have hA1 : ad1 18 = ad 18 := by rw [ea1, va_up_ne _ _ (by decide)]
  have hE1 : E1 18 = .inr (2, [.null, .int 0]) := by rw [ee1, va_up_ne _ _ (by decide)]; exact hE
  refine y_putF (v := .ref (ad1 19)) (C := RX2) (T := TX2) (N := 2) hx hb hts inX2_init_X2 tyX2 tyX2_ok nmX2 hown hK hw (yap hp) hA1 hE1 rfl 0 (by decide) (hts (.fieldLink RX2 9 "SixNumbers$Out" "text" "[C") (List.mem_of_getElem? (i := 5) rfl)) (fun _ h9 => h9) rfl hin rfl (ty := (.array .char)) (by decide +kernel) rfl rfl (Nat.le_of_ble_eq_true rfl) dX2_init_9 (fun E2 H locs ee2 hw => ?_)
  have hE2 : E2 18 = .inr (2, [.ref (ad1 19), .int 0]) := by rw [ee2, va_up_self]; rfl
  refine lv_aload_n hx hb dX2_init_12 rfl (lv_at hl 0 rfl) ?_
  refine lv_iconst (v := 0) hx hb dX2_init_13 (by decide) ?_
  refine y_put (v := .int 0) (C := RX2) (T := TX2) (N := 2) hx hb hts inX2_init_X2 tyX2 tyX2_ok nmX2 hown hK hw (yap hp) hA1 hE2 rfl 1 (by decide) (hts (.fieldLink RX2 15 "SixNumbers$Out" "length" "I") (List.mem_of_getElem? (i := 6) rfl)) (fun _ h9 => h9) rfl (ty := .int) (by decide +kernel) rfl rfl (Nat.le_of_ble_eq_true rfl) dX2_init_14 (fun E3 H locs ee3 hw => ?_)
  have hE3 : E3 18 = .inr (2, [.ref (ad1 19), .int 0]) := by rw [ee3, va_up_self]; rfl
  refine y_vret hx hb hr hlocks hK hw ?_ dX2_init_17
  subst ea1 ee1 ee2 ee3
  refine ⟨fun k hk => ?_, fun k hk hk0 => ?_, fun k hk => ?_⟩
  · dsimp only
    rw [va_up_ne _ _ (show k ≠ 19 by omega)]
  · dsimp only
    rw [va_up_ne _ _ (show k ≠ 18 by omega)]
    rw [va_up_ne _ _ (show k ≠ 18 by omega)]
    rw [va_up_ne _ _ (show k ≠ 19 by omega)]
  · rcases hk with hk | hk
    · subst hk
      dsimp only
      rw [va_up_self]
      rfl
    · subst hk
      dsimp only
      rw [va_up_ne _ _ (show 19 ≠ 18 by decide)]
      rw [va_up_ne _ _ (show 19 ≠ 18 by decide)]
      rw [va_up_self]
      rfl
abbrev rX4_init : Room := { frames := 1, cells := 2, slots := 10082, locals := 12 }
theorem inX4_init_X4 : ∀ w ∈ wsX40, w ∈ wsX4_init := fun w h => List.mem_cons_of_mem _ (List.mem_append_right _ h)
set_option maxHeartbeats 400000 in
set_option maxRecDepth 100000 in
theorem c_X4_init {l : Launch} {D : va_G} {cT : Nat → ClassId} {b : Nat} {S : List Nat} {ad : Nat → Nat} {E : Nat → va_E} {p0 : Nat} (hp : S[p0]? = some 20) (hS : ∀ k, k = 21 ∨ k = 22 → k ∉ S) (hE : E 20 = .inr (4, [.null, .null, .int 0, .int 0])) : Met l yX4_init wsX4_init rX4_init (va_Pc [.ref (ad 20)] (yPre D cT b S ad E)) (yQ D cT b ((S ++ [21]) ++ [22]) (fun u => (∀ k, ¬ (k = 21 ∨ k = 22) → u.1 k = ad k) ∧ (∀ k, ¬ (k = 21 ∨ k = 22) → k ≠ 20 → u.2 k = E k) ∧ ∀ k, (k = 20 ∨ k = 21 ∨ k = 22) → u.2 k = xF cT u.1 (xA0 k) (xL0 k) k)) 2 10082 (yA b) := by
  refine y_met RX4 rfl (by decide) rfl (Nat.le_of_ble_eq_true rfl) (fun p e s m below meth c ls hx hb hr hts hown hml hlocks hin hK hw hl => ?_)
  have hl : lv_has ls 1 [(0, .ref (ad 20))] := hl
  refine lv_aload_n hx hb dX4_init_0 rfl (lv_at hl 0 rfl) ?_
  refine W.objInit hx hb hown (hts (.methodLink RX4 3 objectInit) (List.mem_of_getElem? (i := 1) rfl)) (hts (.instanceMethod objectInit) (List.mem_of_getElem? (i := 2) rfl)) (hts (.code objectInit ⟨#[0xb1]⟩ 1 none) (List.mem_of_getElem? (i := 3) rfl)) rfl (by rw [hml]; exact hl.1) rfl dX4_init_1 (Nat.le_of_ble_eq_true rfl) (Nat.le_of_ble_eq_true rfl) ?_
  refine W.eq (g2 := F0 m 4 ls []) rfl ?_
  refine lv_aload_n hx hb dX4_init_4 rfl (lv_at hl 0 rfl) ?_
  refine lv_sipush (v := 5041) hx hb dX4_init_5 (by decide) ?_
  refine y_newa (atype := .int) hx hb (hts (.arrayClass .int) (List.mem_of_getElem? (i := 4) rfl)) rfl hK hw 21 (hS 21 (by omega)) 0 rfl (fun cA h1 h2 => Option.some.inj (h1.symm.trans h2)) (N' := 5041) (a0 := (5041, .inl (fun _ => 0))) (fun cA => rfl) (by decide) (by decide) (Nat.le_of_ble_eq_true rfl) (Nat.le_of_ble_eq_true rfl) (Nat.le_of_ble_eq_true rfl) dX4_init_8 (fun q1 ad1 E1 H ea1 ee1 hw => ?_)
  refine W.widen (k := 1) (n := 5041) (Nat.le_of_ble_eq_true rfl) (Nat.le_of_ble_eq_true rfl) ?_
  have hA1 : ad1 20 = ad 20 := by rw [ea1, va_up_ne _ _ (by decide)]
  have hE1 : E1 20 = .inr (4, [.null, .null, .int 0, .int 0]) := by rw [ee1, va_up_ne _ _ (by decide)]; exact hE
  refine y_putF (v := .ref (ad1 21)) (C := RX4) (T := TX4) (N := 4) hx hb hts inX4_init_X4 tyX4 tyX4_ok nmX4 hown hK hw (yap hp) hA1 hE1 rfl 0 (by decide) (hts (.fieldLink RX4 9 "SixNumbers$Signs" "steps" "[I") (List.mem_of_getElem? (i := 5) rfl)) (fun _ h9 => h9) rfl hin rfl (ty := (.array .int)) (by decide +kernel) rfl rfl (Nat.le_of_ble_eq_true rfl) dX4_init_10 (fun E2 H locs ee2 hw => ?_)
  have hE2 : E2 20 = .inr (4, [.ref (ad1 21), .null, .int 0, .int 0]) := by rw [ee2, va_up_self]; rfl
  refine lv_aload_n hx hb dX4_init_13 rfl (lv_at hl 0 rfl) ?_
  refine lv_sipush (v := 5041) hx hb dX4_init_14 (by decide) ?_
  refine y_newa (atype := .int) hx hb (hts (.arrayClass .int) (List.mem_of_getElem? (i := 4) rfl)) rfl hK hw 22 (y_nm (hS 22 (by omega)) (by decide)) 0 rfl (fun cA h1 h2 => Option.some.inj (h1.symm.trans h2)) (N' := 5041) (a0 := (5041, .inl (fun _ => 0))) (fun cA => rfl) (by decide) (by decide) (Nat.le_of_ble_eq_true rfl) (Nat.le_of_ble_eq_true rfl) (Nat.le_of_ble_eq_true rfl) dX4_init_17 (fun q2 ad2 E3 H ea2 ee3 hw => ?_)
  refine W.widen (k := 2) (n := 10082) (Nat.le_of_ble_eq_true rfl) (Nat.le_of_ble_eq_true rfl) ?_
  have hA2 : ad2 20 = ad 20 := by rw [ea2, va_up_ne _ _ (by decide)]; exact hA1
  have hE3 : E3 20 = .inr (4, [.ref (ad1 21), .null, .int 0, .int 0]) := by rw [ee3, va_up_ne _ _ (by decide)]; exact hE2
  refine y_putF (v := .ref (ad2 22)) (C := RX4) (T := TX4) (N := 4) hx hb hts inX4_init_X4 tyX4 tyX4_ok nmX4 hown hK hw (yap (yap hp)) hA2 hE3 rfl 1 (by decide) (hts (.fieldLink RX4 15 "SixNumbers$Signs" "queue" "[I") (List.mem_of_getElem? (i := 6) rfl)) (fun _ h9 => h9) rfl hin rfl (ty := (.array .int)) (by decide +kernel) rfl rfl (Nat.le_of_ble_eq_true rfl) dX4_init_19 (fun E4 H locs ee4 hw => ?_)
  have hE4 : E4 20 = .inr (4, [.ref (ad1 21), .ref (ad2 22), .int 0, .int 0]) := by rw [ee4, va_up_self]; rfl
  refine lv_aload_n hx hb dX4_init_22 rfl (lv_at hl 0 rfl) ?_
  refine lv_iconst (v := 0) hx hb dX4_init_23 (by decide) ?_
  refine y_put (v := .int 0) (C := RX4) (T := TX4) (N := 4) hx hb hts inX4_init_X4 tyX4 tyX4_ok nmX4 hown hK hw (yap (yap hp)) hA2 hE4 rfl 2 (by decide) (hts (.fieldLink RX4 18 "SixNumbers$Signs" "waiting" "I") (List.mem_of_getElem? (i := 7) rfl)) (fun _ h9 => h9) rfl (ty := .int) (by decide +kernel) rfl rfl (Nat.le_of_ble_eq_true rfl) dX4_init_24 (fun E5 H locs ee5 hw => ?_)
  have hE5 : E5 20 = .inr (4, [.ref (ad1 21), .ref (ad2 22), .int 0, .int 0]) := by rw [ee5, va_up_self]; rfl
  refine lv_aload_n hx hb dX4_init_27 rfl (lv_at hl 0 rfl) ?_
  refine lv_iconst (v := (-1)) hx hb dX4_init_28 (by decide) ?_
  refine y_put (v := .int (-1)) (C := RX4) (T := TX4) (N := 4) hx hb hts inX4_init_X4 tyX4 tyX4_ok nmX4 hown hK hw (yap (yap hp)) hA2 hE5 rfl 3 (by decide) (hts (.fieldLink RX4 22 "SixNumbers$Signs" "from" "I") (List.mem_of_getElem? (i := 8) rfl)) (fun _ h9 => h9) rfl (ty := .int) (by decide +kernel) rfl rfl (Nat.le_of_ble_eq_true rfl) dX4_init_29 (fun E6 H locs ee6 hw => ?_)
  have hE6 : E6 20 = .inr (4, [.ref (ad1 21), .ref (ad2 22), .int 0, .int (-1)]) := by rw [ee6, va_up_self]; rfl
  refine y_vret hx hb hr hlocks hK hw ?_ dX4_init_32
  subst ea1 ee1 ee2 ea2 ee3 ee4 ee5 ee6
  refine ⟨fun k hk => ?_, fun k hk hk0 => ?_, fun k hk => ?_⟩
  · dsimp only
    rw [va_up_ne _ _ (show k ≠ 22 by omega)]
    rw [va_up_ne _ _ (show k ≠ 21 by omega)]
  · dsimp only
    rw [va_up_ne _ _ (show k ≠ 20 by omega)]
    rw [va_up_ne _ _ (show k ≠ 20 by omega)]
    rw [va_up_ne _ _ (show k ≠ 20 by omega)]
    rw [va_up_ne _ _ (show k ≠ 22 by omega)]
    rw [va_up_ne _ _ (show k ≠ 20 by omega)]
    rw [va_up_ne _ _ (show k ≠ 21 by omega)]
  · rcases hk with hk | hk | hk
    · subst hk
      dsimp only
      rw [va_up_self]
      rfl
    · subst hk
      dsimp only
      rw [va_up_ne _ _ (show 21 ≠ 20 by decide)]
      rw [va_up_ne _ _ (show 21 ≠ 20 by decide)]
      rw [va_up_ne _ _ (show 21 ≠ 20 by decide)]
      rw [va_up_ne _ _ (show 21 ≠ 22 by decide)]
      rw [va_up_ne _ _ (show 21 ≠ 20 by decide)]
      rw [va_up_self]
      rfl
    · subst hk
      dsimp only
      rw [va_up_ne _ _ (show 22 ≠ 20 by decide)]
      rw [va_up_ne _ _ (show 22 ≠ 20 by decide)]
      rw [va_up_ne _ _ (show 22 ≠ 20 by decide)]
      rw [va_up_self]
      rfl
abbrev rX1_init_0 : Room := { frames := 1, cells := 133, slots := 387263, locals := 12 }
theorem inX1_init_X1 : ∀ w ∈ wsX10, w ∈ wsX1_init := fun w h => List.mem_cons_of_mem _ (List.mem_append_right _ h)
set_option maxHeartbeats 400000 in
set_option maxRecDepth 100000 in
theorem c_X1_init_0 {l : Launch} {D : va_G} {cT : Nat → ClassId} {b : Nat} {S : List Nat} {ad : Nat → Nat} {E : Nat → va_E} {a1 : Nat} (h1 : ad 1 = a1) {p0 : Nat} (hp : S[p0]? = some 2) (hS : ∀ k, k = 3 ∨ k = 4 ∨ (36 ≤ k ∧ k < 100) ∨ k = 5 ∨ (100 ≤ k ∧ k < 164) ∨ k = 6 ∨ k = 7 → k ∉ S) (hE : E 2 = .inr (1, [.null, .null, .null, .null, .null, .null, .int 0, .int 0])) : Met l yX1_init wsX1_init rX1_init_0 (va_Pc [.ref (ad 2), .ref a1, .int 6] (yPre D cT b S ad E)) (yQ D cT b (((((((S ++ [3]) ++ [4]) ++ yrg 36 64) ++ [5]) ++ yrg 100 64) ++ [6]) ++ [7]) (fun u => (∀ k, ¬ (k = 3 ∨ k = 4 ∨ (36 ≤ k ∧ k < 100) ∨ k = 5 ∨ (100 ≤ k ∧ k < 164) ∨ k = 6 ∨ k = 7) → u.1 k = ad k) ∧ (∀ k, ¬ (k = 3 ∨ k = 4 ∨ (36 ≤ k ∧ k < 100) ∨ k = 5 ∨ (100 ≤ k ∧ k < 164) ∨ k = 6 ∨ k = 7) → k ≠ 2 → u.2 k = E k) ∧ ∀ k, (k = 2 ∨ k = 3 ∨ k = 4 ∨ (36 ≤ k ∧ k < 100) ∨ k = 5 ∨ (100 ≤ k ∧ k < 164) ∨ k = 6 ∨ k = 7) → u.2 k = xF cT u.1 (xA0 k) (xL0 k) k)) 133 387263 (yA b) := by
  subst h1
  refine y_met RX1 rfl (by decide) rfl (Nat.le_of_ble_eq_true rfl) (fun p e s m below meth c ls hx hb hr hts hown hml hlocks hin hK hw hl => ?_)
  have hl : lv_has ls 3 [(0, .ref (ad 2)), (1, .ref (ad 1)), (2, .int 6)] := hl
  refine lv_aload_n hx hb dX1_init_0 rfl (lv_at hl 0 rfl) ?_
  refine W.objInit hx hb hown (hts (.methodLink RX1 3 objectInit) (List.mem_of_getElem? (i := 1) rfl)) (hts (.instanceMethod objectInit) (List.mem_of_getElem? (i := 2) rfl)) (hts (.code objectInit ⟨#[0xb1]⟩ 1 none) (List.mem_of_getElem? (i := 3) rfl)) rfl (by rw [hml]; exact hl.1) rfl dX1_init_1 (Nat.le_of_ble_eq_true rfl) (Nat.le_of_ble_eq_true rfl) ?_
  refine W.eq (g2 := F0 m 4 ls []) rfl ?_
  refine lv_aload_n hx hb dX1_init_4 rfl (lv_at hl 0 rfl) ?_
  refine lv_iconst (v := 0) hx hb dX1_init_5 (by decide) ?_
  refine y_put (v := .int 0) (C := RX1) (T := TX1) (N := 8) hx hb hts inX1_init_X1 tyX1 tyX1_ok nmX1 hown hK hw hp rfl hE rfl 6 (by decide) (hts (.fieldLink RX1 9 "SixNumbers$Heap" "size" "I") (List.mem_of_getElem? (i := 4) rfl)) (fun _ h9 => h9) rfl (ty := .int) (by decide +kernel) rfl rfl (Nat.le_of_ble_eq_true rfl) dX1_init_6 (fun E1 H locs ee1 hw => ?_)
  have hE1 : E1 2 = .inr (1, [.null, .null, .null, .null, .null, .null, .int 0, .int 0]) := by rw [ee1, va_up_self]; rfl
  refine lv_aload_n hx hb dX1_init_9 rfl (lv_at hl 0 rfl) ?_
  refine lv_iconst (v := 0) hx hb dX1_init_10 (by decide) ?_
  refine y_put (v := .int 0) (C := RX1) (T := TX1) (N := 8) hx hb hts inX1_init_X1 tyX1 tyX1_ok nmX1 hown hK hw hp rfl hE1 rfl 7 (by decide) (hts (.fieldLink RX1 15 "SixNumbers$Heap" "changed" "I") (List.mem_of_getElem? (i := 5) rfl)) (fun _ h9 => h9) rfl (ty := .int) (by decide +kernel) rfl rfl (Nat.le_of_ble_eq_true rfl) dX1_init_11 (fun E2 H locs ee2 hw => ?_)
  have hE2 : E2 2 = .inr (1, [.null, .null, .null, .null, .null, .null, .int 0, .int 0]) := by rw [ee2, va_up_self]; rfl
  refine lv_aload_n hx hb dX1_init_14 rfl (lv_at hl 0 rfl) ?_
  refine lv_aload_n hx hb dX1_init_15 rfl (lv_at hl 1 rfl) ?_
  refine y_putF (v := .ref (ad 1)) (C := RX1) (T := TX1) (N := 8) hx hb hts inX1_init_X1 tyX1 tyX1_ok nmX1 hown hK hw hp rfl hE2 rfl 0 (by decide) (hts (.fieldLink RX1 18 "SixNumbers$Heap" "rules" "LSixNumbers$Rules;") (List.mem_of_getElem? (i := 6) rfl)) (fun _ h9 => h9) rfl hin rfl (ty := (.object "SixNumbers$Rules")) (by decide +kernel) rfl rfl (Nat.le_of_ble_eq_true rfl) dX1_init_16 (fun E3 H locs ee3 hw => ?_)
  have hE3 : E3 2 = .inr (1, [.ref (ad 1), .null, .null, .null, .null, .null, .int 0, .int 0]) := by rw [ee3, va_up_self]; rfl
  refine lv_aload_n hx hb dX1_init_19 rfl (lv_at hl 0 rfl) ?_
  refine lv_iload_n hx hb dX1_init_20 rfl (lv_at hl 2 rfl) ?_
  refine y_newa (atype := .int) hx hb (hts (.arrayClass .int) (List.mem_of_getElem? (i := 7) rfl)) rfl hK hw 3 (hS 3 (by omega)) 0 rfl (fun cA h1 h2 => Option.some.inj (h1.symm.trans h2)) (N' := 6) (a0 := (6, .inl (fun _ => 0))) (fun cA => rfl) (by decide) (by decide) (Nat.le_of_ble_eq_true rfl) (Nat.le_of_ble_eq_true rfl) (Nat.le_of_ble_eq_true rfl) dX1_init_21 (fun q1 ad1 E4 H ea1 ee4 hw => ?_)
  refine W.widen (k := 1) (n := 6) (Nat.le_of_ble_eq_true rfl) (Nat.le_of_ble_eq_true rfl) ?_
  have hA1 : ad1 2 = ad 2 := by rw [ea1, va_up_ne _ _ (by decide)]
  have hE4 : E4 2 = .inr (1, [.ref (ad 1), .null, .null, .null, .null, .null, .int 0, .int 0]) := by rw [ee4, va_up_ne _ _ (by decide)]; exact hE3
  refine y_putF (v := .ref (ad1 3)) (C := RX1) (T := TX1) (N := 8) hx hb hts inX1_init_X1 tyX1 tyX1_ok nmX1 hown hK hw (yap hp) hA1 hE4 rfl 1 (by decide) (hts (.fieldLink RX1 22 "SixNumbers$Heap" "items" "[I") (List.mem_of_getElem? (i := 8) rfl)) (fun _ h9 => h9) rfl hin rfl (ty := (.array .int)) (by decide +kernel) rfl rfl (Nat.le_of_ble_eq_true rfl) dX1_init_23 (fun E5 H locs ee5 hw => ?_)
  have hE5 : E5 2 = .inr (1, [.ref (ad 1), .ref (ad1 3), .null, .null, .null, .null, .int 0, .int 0]) := by rw [ee5, va_up_self]; rfl
  refine lv_aload_n hx hb dX1_init_26 rfl (lv_at hl 0 rfl) ?_
  refine lv_iconst (v := 1) hx hb dX1_init_27 (by decide) ?_
  refine lv_iload_n hx hb dX1_init_28 rfl (lv_at hl 2 rfl) ?_
  refine lv_ishl hx hb dX1_init_29 ?_
  rw [show ((1 : Int32) <<< ((6 : Int32) &&& 31)) = 64 by decide]
  refine lv_sipush (v := 3001) hx hb dX1_init_30 (by decide) ?_
  refine y_mna (ty := .long) (z := (3001, .inr (.inl (fun _ => 0)))) hx hb hown (hts (.classLink RX1 26 "[[J") (List.mem_of_getElem? (i := 9) rfl)) hK.2.2.2 (hts (.arrayClass .long) (List.mem_of_getElem? (i := 10) rfl)) hK hw 4 (y_nm (hS 4 (by omega)) (by decide)) 1 4 (hK.1.2 1 _ rfl).2 rfl (N' := 64) (K' := 3001) 36 (y_hr1 (y_hr1 (fun j hj hr => hS j (by omega) hj) (by omega)) (by omega)) (by decide) (by decide) (by decide) (by decide) (Nat.le_of_ble_eq_true rfl) (Nat.le_of_ble_eq_true rfl) (Nat.le_of_ble_eq_true rfl) rfl rfl (Nat.le_of_ble_eq_true rfl) (Nat.le_of_ble_eq_true rfl) (fun c9 => (y_inner c9 3001 _).trans (vp_cell_l c9 3001 _).symm) dX1_init_33 (fun q2 r2 ad2 E6 H ea2 ee6 hw => ?_)
  refine W.widen (k := 66) (n := 192134) (Nat.le_of_ble_eq_true rfl) (Nat.le_of_ble_eq_true rfl) ?_
  have hA2 : ad2 2 = ad 2 := by rw [ea2]; simp only [yur]; rw [if_neg (by decide), va_up_ne _ _ (by decide)]; exact hA1
  have hE6 : E6 2 = .inr (1, [.ref (ad 1), .ref (ad1 3), .null, .null, .null, .null, .int 0, .int 0]) := by rw [ee6]; simp only [yur]; rw [if_neg (by decide), va_up_ne _ _ (by decide)]; exact hE5
  refine y_putF (v := .ref (ad2 4)) (C := RX1) (T := TX1) (N := 8) hx hb hts inX1_init_X1 tyX1 tyX1_ok nmX1 hown hK hw (yap (yap (yap hp))) hA2 hE6 rfl 2 (by decide) (hts (.fieldLink RX1 28 "SixNumbers$Heap" "counts" "[[J") (List.mem_of_getElem? (i := 11) rfl)) (fun _ h9 => h9) rfl hin rfl (ty := (.array (.array .long))) (by decide +kernel) rfl rfl (Nat.le_of_ble_eq_true rfl) dX1_init_37 (fun E7 H locs ee7 hw => ?_)
  have hE7 : E7 2 = .inr (1, [.ref (ad 1), .ref (ad1 3), .ref (ad2 4), .null, .null, .null, .int 0, .int 0]) := by rw [ee7, va_up_self]; rfl
  refine lv_aload_n hx hb dX1_init_40 rfl (lv_at hl 0 rfl) ?_
  refine lv_iconst (v := 1) hx hb dX1_init_41 (by decide) ?_
  refine lv_iload_n hx hb dX1_init_42 rfl (lv_at hl 2 rfl) ?_
  refine lv_ishl hx hb dX1_init_43 ?_
  rw [show ((1 : Int32) <<< ((6 : Int32) &&& 31)) = 64 by decide]
  refine lv_sipush (v := 3000) hx hb dX1_init_44 (by decide) ?_
  refine y_mna (ty := .int) (z := (3000, .inl (fun _ => 0))) hx hb hown (hts (.classLink RX1 31 "[[I") (List.mem_of_getElem? (i := 12) rfl)) hK.2.2.1 (hts (.arrayClass .int) (List.mem_of_getElem? (i := 7) rfl)) hK hw 5 (y_nmr (y_nm (y_nm (hS 5 (by omega)) (by decide)) (by decide)) (by decide)) 0 3 (hK.1.2 0 _ rfl).2 rfl (N' := 64) (K' := 3000) 100 (y_hr1 (y_hrr (y_hr1 (y_hr1 (fun j hj hr => hS j (by omega) hj) (by omega)) (by omega)) (by omega)) (by omega)) (by decide) (by decide) (by decide) (by decide) (Nat.le_of_ble_eq_true rfl) (Nat.le_of_ble_eq_true rfl) (Nat.le_of_ble_eq_true rfl) rfl rfl (Nat.le_of_ble_eq_true rfl) (Nat.le_of_ble_eq_true rfl) (fun c9 => (y_inner c9 3000 _).trans (vp_cell_i c9 3000 _).symm) dX1_init_47 (fun q3 r3 ad3 E8 H ea3 ee8 hw => ?_)
  refine W.widen (k := 131) (n := 384198) (Nat.le_of_ble_eq_true rfl) (Nat.le_of_ble_eq_true rfl) ?_
  have hA3 : ad3 2 = ad 2 := by rw [ea3]; simp only [yur]; rw [if_neg (by decide), va_up_ne _ _ (by decide)]; exact hA2
  have hE8 : E8 2 = .inr (1, [.ref (ad 1), .ref (ad1 3), .ref (ad2 4), .null, .null, .null, .int 0, .int 0]) := by rw [ee8]; simp only [yur]; rw [if_neg (by decide), va_up_ne _ _ (by decide)]; exact hE7
  refine y_putF (v := .ref (ad3 5)) (C := RX1) (T := TX1) (N := 8) hx hb hts inX1_init_X1 tyX1 tyX1_ok nmX1 hown hK hw (yap (yap (yap (yap (yap hp))))) hA3 hE8 rfl 3 (by decide) (hts (.fieldLink RX1 33 "SixNumbers$Heap" "found" "[[I") (List.mem_of_getElem? (i := 13) rfl)) (fun _ h9 => h9) rfl hin rfl (ty := (.array (.array .int))) (by decide +kernel) rfl rfl (Nat.le_of_ble_eq_true rfl) dX1_init_51 (fun E9 H locs ee9 hw => ?_)
  have hE9 : E9 2 = .inr (1, [.ref (ad 1), .ref (ad1 3), .ref (ad2 4), .ref (ad3 5), .null, .null, .int 0, .int 0]) := by rw [ee9, va_up_self]; rfl
  refine lv_aload_n hx hb dX1_init_54 rfl (lv_at hl 0 rfl) ?_
  refine lv_iconst (v := 1) hx hb dX1_init_55 (by decide) ?_
  refine lv_iload_n hx hb dX1_init_56 rfl (lv_at hl 2 rfl) ?_
  refine lv_ishl hx hb dX1_init_57 ?_
  rw [show ((1 : Int32) <<< ((6 : Int32) &&& 31)) = 64 by decide]
  refine y_newa (atype := .int) hx hb (hts (.arrayClass .int) (List.mem_of_getElem? (i := 7) rfl)) rfl hK hw 6 (y_nmr (y_nm (y_nmr (y_nm (y_nm (hS 6 (by omega)) (by decide)) (by decide)) (by decide)) (by decide)) (by decide)) 0 rfl (fun cA h1 h2 => Option.some.inj (h1.symm.trans h2)) (N' := 64) (a0 := (64, .inl (fun _ => 0))) (fun cA => rfl) (by decide) (by decide) (Nat.le_of_ble_eq_true rfl) (Nat.le_of_ble_eq_true rfl) (Nat.le_of_ble_eq_true rfl) dX1_init_58 (fun q4 ad4 E10 H ea4 ee10 hw => ?_)
  refine W.widen (k := 132) (n := 384262) (Nat.le_of_ble_eq_true rfl) (Nat.le_of_ble_eq_true rfl) ?_
  have hA4 : ad4 2 = ad 2 := by rw [ea4, va_up_ne _ _ (by decide)]; exact hA3
  have hE10 : E10 2 = .inr (1, [.ref (ad 1), .ref (ad1 3), .ref (ad2 4), .ref (ad3 5), .null, .null, .int 0, .int 0]) := by rw [ee10, va_up_ne _ _ (by decide)]; exact hE9
  refine y_putF (v := .ref (ad4 6)) (C := RX1) (T := TX1) (N := 8) hx hb hts inX1_init_X1 tyX1 tyX1_ok nmX1 hown hK hw (yap (yap (yap (yap (yap (yap hp)))))) hA4 hE10 rfl 4 (by decide) (hts (.fieldLink RX1 36 "SixNumbers$Heap" "founds" "[I") (List.mem_of_getElem? (i := 14) rfl)) (fun _ h9 => h9) rfl hin rfl (ty := (.array .int)) (by decide +kernel) rfl rfl (Nat.le_of_ble_eq_true rfl) dX1_init_60 (fun E11 H locs ee11 hw => ?_)
  have hE11 : E11 2 = .inr (1, [.ref (ad 1), .ref (ad1 3), .ref (ad2 4), .ref (ad3 5), .ref (ad4 6), .null, .int 0, .int 0]) := by rw [ee11, va_up_self]; rfl
  refine lv_aload_n hx hb dX1_init_63 rfl (lv_at hl 0 rfl) ?_
  refine lv_sipush (v := 3001) hx hb dX1_init_64 (by decide) ?_
  refine y_newa (atype := .int) hx hb (hts (.arrayClass .int) (List.mem_of_getElem? (i := 7) rfl)) rfl hK hw 7 (y_nm (y_nmr (y_nm (y_nmr (y_nm (y_nm (hS 7 (by omega)) (by decide)) (by decide)) (by decide)) (by decide)) (by decide)) (by decide)) 0 rfl (fun cA h1 h2 => Option.some.inj (h1.symm.trans h2)) (N' := 3001) (a0 := (3001, .inl (fun _ => 0))) (fun cA => rfl) (by decide) (by decide) (Nat.le_of_ble_eq_true rfl) (Nat.le_of_ble_eq_true rfl) (Nat.le_of_ble_eq_true rfl) dX1_init_67 (fun q5 ad5 E12 H ea5 ee12 hw => ?_)
  refine W.widen (k := 133) (n := 387263) (Nat.le_of_ble_eq_true rfl) (Nat.le_of_ble_eq_true rfl) ?_
  have hA5 : ad5 2 = ad 2 := by rw [ea5, va_up_ne _ _ (by decide)]; exact hA4
  have hE12 : E12 2 = .inr (1, [.ref (ad 1), .ref (ad1 3), .ref (ad2 4), .ref (ad3 5), .ref (ad4 6), .null, .int 0, .int 0]) := by rw [ee12, va_up_ne _ _ (by decide)]; exact hE11
  refine y_putF (v := .ref (ad5 7)) (C := RX1) (T := TX1) (N := 8) hx hb hts inX1_init_X1 tyX1 tyX1_ok nmX1 hown hK hw (yap (yap (yap (yap (yap (yap (yap hp))))))) hA5 hE12 rfl 5 (by decide) (hts (.fieldLink RX1 39 "SixNumbers$Heap" "holders" "[I") (List.mem_of_getElem? (i := 15) rfl)) (fun _ h9 => h9) rfl hin rfl (ty := (.array .int)) (by decide +kernel) rfl rfl (Nat.le_of_ble_eq_true rfl) dX1_init_69 (fun E13 H locs ee13 hw => ?_)
  have hE13 : E13 2 = .inr (1, [.ref (ad 1), .ref (ad1 3), .ref (ad2 4), .ref (ad3 5), .ref (ad4 6), .ref (ad5 7), .int 0, .int 0]) := by rw [ee13, va_up_self]; rfl
  refine y_vret hx hb hr hlocks hK hw ?_ dX1_init_72
  subst ee1 ee2 ee3 ea1 ee4 ee5 ea2 ee6 ee7 ea3 ee8 ee9 ea4 ee10 ee11 ea5 ee12 ee13
  refine ⟨fun k hk => ?_, fun k hk hk0 => ?_, fun k hk => ?_⟩
  · dsimp only
    rw [va_up_ne _ _ (show k ≠ 7 by omega)]
    rw [va_up_ne _ _ (show k ≠ 6 by omega)]
    rw [yur_ne (by omega)]
    rw [va_up_ne _ _ (show k ≠ 5 by omega)]
    rw [yur_ne (by omega)]
    rw [va_up_ne _ _ (show k ≠ 4 by omega)]
    rw [va_up_ne _ _ (show k ≠ 3 by omega)]
  · dsimp only
    rw [va_up_ne _ _ (show k ≠ 2 by omega)]
    rw [va_up_ne _ _ (show k ≠ 7 by omega)]
    rw [va_up_ne _ _ (show k ≠ 2 by omega)]
    rw [va_up_ne _ _ (show k ≠ 6 by omega)]
    rw [va_up_ne _ _ (show k ≠ 2 by omega)]
    rw [yur_ne (by omega)]
    rw [va_up_ne _ _ (show k ≠ 5 by omega)]
    rw [va_up_ne _ _ (show k ≠ 2 by omega)]
    rw [yur_ne (by omega)]
    rw [va_up_ne _ _ (show k ≠ 4 by omega)]
    rw [va_up_ne _ _ (show k ≠ 2 by omega)]
    rw [va_up_ne _ _ (show k ≠ 3 by omega)]
    rw [va_up_ne _ _ (show k ≠ 2 by omega)]
    rw [va_up_ne _ _ (show k ≠ 2 by omega)]
    rw [va_up_ne _ _ (show k ≠ 2 by omega)]
  · rcases hk with hk | hk | hk | hk | hk | hk | hk | hk
    · subst hk
      dsimp only
      rw [va_up_self]
      rfl
    · subst hk
      dsimp only
      rw [va_up_ne _ _ (show 3 ≠ 2 by decide)]
      rw [va_up_ne _ _ (show 3 ≠ 7 by decide)]
      rw [va_up_ne _ _ (show 3 ≠ 2 by decide)]
      rw [va_up_ne _ _ (show 3 ≠ 6 by decide)]
      rw [va_up_ne _ _ (show 3 ≠ 2 by decide)]
      rw [yur_ne (by decide)]
      rw [va_up_ne _ _ (show 3 ≠ 5 by decide)]
      rw [va_up_ne _ _ (show 3 ≠ 2 by decide)]
      rw [yur_ne (by decide)]
      rw [va_up_ne _ _ (show 3 ≠ 4 by decide)]
      rw [va_up_ne _ _ (show 3 ≠ 2 by decide)]
      rw [va_up_self]
      rfl
    · subst hk
      dsimp only
      rw [va_up_ne _ _ (show 4 ≠ 2 by decide)]
      rw [va_up_ne _ _ (show 4 ≠ 7 by decide)]
      rw [va_up_ne _ _ (show 4 ≠ 2 by decide)]
      rw [va_up_ne _ _ (show 4 ≠ 6 by decide)]
      rw [va_up_ne _ _ (show 4 ≠ 2 by decide)]
      rw [yur_ne (by decide)]
      rw [va_up_ne _ _ (show 4 ≠ 5 by decide)]
      rw [va_up_ne _ _ (show 4 ≠ 2 by decide)]
      rw [yur_ne (by decide)]
      rw [va_up_self]
      refine congrArg (fun f9 => (.inl (cT 4, 64, .inr (.inr (.inr (.inr f9)))) : va_E)) (xR_ext (fun i hi => ?_))
      symm
      rw [va_up_ne _ _ (show 36 + i ≠ 7 by omega)]
      rw [va_up_ne _ _ (show 36 + i ≠ 6 by omega)]
      rw [yur_ne (by omega)]
      rw [va_up_ne _ _ (show 36 + i ≠ 5 by omega)]
    · obtain ⟨h1, h2⟩ := hk
      dsimp only
      rw [xF_r1 (by omega) (by omega)]
      rw [va_up_ne _ _ (show k ≠ 2 by omega)]
      rw [va_up_ne _ _ (show k ≠ 7 by omega)]
      rw [va_up_ne _ _ (show k ≠ 2 by omega)]
      rw [va_up_ne _ _ (show k ≠ 6 by omega)]
      rw [va_up_ne _ _ (show k ≠ 2 by omega)]
      rw [yur_ne (by omega)]
      rw [va_up_ne _ _ (show k ≠ 5 by omega)]
      rw [va_up_ne _ _ (show k ≠ 2 by omega)]
      rw [yur_in (by omega)]
      rfl
    · subst hk
      dsimp only
      rw [va_up_ne _ _ (show 5 ≠ 2 by decide)]
      rw [va_up_ne _ _ (show 5 ≠ 7 by decide)]
      rw [va_up_ne _ _ (show 5 ≠ 2 by decide)]
      rw [va_up_ne _ _ (show 5 ≠ 6 by decide)]
      rw [va_up_ne _ _ (show 5 ≠ 2 by decide)]
      rw [yur_ne (by decide)]
      rw [va_up_self]
      refine congrArg (fun f9 => (.inl (cT 3, 64, .inr (.inr (.inr (.inr f9)))) : va_E)) (xR_ext (fun i hi => ?_))
      symm
      rw [va_up_ne _ _ (show 100 + i ≠ 7 by omega)]
      rw [va_up_ne _ _ (show 100 + i ≠ 6 by omega)]
    · obtain ⟨h1, h2⟩ := hk
      dsimp only
      rw [xF_r2 (by omega) (by omega), xA0_row (show 36 ≤ k by omega)]
      rw [va_up_ne _ _ (show k ≠ 2 by omega)]
      rw [va_up_ne _ _ (show k ≠ 7 by omega)]
      rw [va_up_ne _ _ (show k ≠ 2 by omega)]
      rw [va_up_ne _ _ (show k ≠ 6 by omega)]
      rw [va_up_ne _ _ (show k ≠ 2 by omega)]
      rw [yur_in (by omega)]
      rfl
    · subst hk
      dsimp only
      rw [va_up_ne _ _ (show 6 ≠ 2 by decide)]
      rw [va_up_ne _ _ (show 6 ≠ 7 by decide)]
      rw [va_up_ne _ _ (show 6 ≠ 2 by decide)]
      rw [va_up_self]
      rfl
    · subst hk
      dsimp only
      rw [va_up_ne _ _ (show 7 ≠ 2 by decide)]
      rw [va_up_self]
      rfl
abbrev rX1_init_1 : Room := { frames := 1, cells := 37, slots := 99069, locals := 12 }
set_option maxHeartbeats 400000 in
set_option maxRecDepth 100000 in
theorem c_X1_init_1 {l : Launch} {D : va_G} {cT : Nat → ClassId} {b : Nat} {S : List Nat} {ad : Nat → Nat} {E : Nat → va_E} {a1 : Nat} (h1 : ad 1 = a1) {p0 : Nat} (hp : S[p0]? = some 8) (hS : ∀ k, k = 9 ∨ k = 10 ∨ (164 ≤ k ∧ k < 180) ∨ k = 11 ∨ (180 ≤ k ∧ k < 196) ∨ k = 12 ∨ k = 13 → k ∉ S) (hE : E 8 = .inr (1, [.null, .null, .null, .null, .null, .null, .int 0, .int 0])) : Met l yX1_init wsX1_init rX1_init_1 (va_Pc [.ref (ad 8), .ref a1, .int 4] (yPre D cT b S ad E)) (yQ D cT b (((((((S ++ [9]) ++ [10]) ++ yrg 164 16) ++ [11]) ++ yrg 180 16) ++ [12]) ++ [13]) (fun u => (∀ k, ¬ (k = 9 ∨ k = 10 ∨ (164 ≤ k ∧ k < 180) ∨ k = 11 ∨ (180 ≤ k ∧ k < 196) ∨ k = 12 ∨ k = 13) → u.1 k = ad k) ∧ (∀ k, ¬ (k = 9 ∨ k = 10 ∨ (164 ≤ k ∧ k < 180) ∨ k = 11 ∨ (180 ≤ k ∧ k < 196) ∨ k = 12 ∨ k = 13) → k ≠ 8 → u.2 k = E k) ∧ ∀ k, (k = 8 ∨ k = 9 ∨ k = 10 ∨ (164 ≤ k ∧ k < 180) ∨ k = 11 ∨ (180 ≤ k ∧ k < 196) ∨ k = 12 ∨ k = 13) → u.2 k = xF cT u.1 (xA0 k) (xL0 k) k)) 37 99069 (yA b) := by
  subst h1
  refine y_met RX1 rfl (by decide) rfl (Nat.le_of_ble_eq_true rfl) (fun p e s m below meth c ls hx hb hr hts hown hml hlocks hin hK hw hl => ?_)
  have hl : lv_has ls 3 [(0, .ref (ad 8)), (1, .ref (ad 1)), (2, .int 4)] := hl
  refine lv_aload_n hx hb dX1_init_0 rfl (lv_at hl 0 rfl) ?_
  refine W.objInit hx hb hown (hts (.methodLink RX1 3 objectInit) (List.mem_of_getElem? (i := 1) rfl)) (hts (.instanceMethod objectInit) (List.mem_of_getElem? (i := 2) rfl)) (hts (.code objectInit ⟨#[0xb1]⟩ 1 none) (List.mem_of_getElem? (i := 3) rfl)) rfl (by rw [hml]; exact hl.1) rfl dX1_init_1 (Nat.le_of_ble_eq_true rfl) (Nat.le_of_ble_eq_true rfl) ?_
  refine W.eq (g2 := F0 m 4 ls []) rfl ?_
  refine lv_aload_n hx hb dX1_init_4 rfl (lv_at hl 0 rfl) ?_
  refine lv_iconst (v := 0) hx hb dX1_init_5 (by decide) ?_
  refine y_put (v := .int 0) (C := RX1) (T := TX1) (N := 8) hx hb hts inX1_init_X1 tyX1 tyX1_ok nmX1 hown hK hw hp rfl hE rfl 6 (by decide) (hts (.fieldLink RX1 9 "SixNumbers$Heap" "size" "I") (List.mem_of_getElem? (i := 4) rfl)) (fun _ h9 => h9) rfl (ty := .int) (by decide +kernel) rfl rfl (Nat.le_of_ble_eq_true rfl) dX1_init_6 (fun E1 H locs ee1 hw => ?_)
  have hE1 : E1 8 = .inr (1, [.null, .null, .null, .null, .null, .null, .int 0, .int 0]) := by rw [ee1, va_up_self]; rfl
  refine lv_aload_n hx hb dX1_init_9 rfl (lv_at hl 0 rfl) ?_
  refine lv_iconst (v := 0) hx hb dX1_init_10 (by decide) ?_
  refine y_put (v := .int 0) (C := RX1) (T := TX1) (N := 8) hx hb hts inX1_init_X1 tyX1 tyX1_ok nmX1 hown hK hw hp rfl hE1 rfl 7 (by decide) (hts (.fieldLink RX1 15 "SixNumbers$Heap" "changed" "I") (List.mem_of_getElem? (i := 5) rfl)) (fun _ h9 => h9) rfl (ty := .int) (by decide +kernel) rfl rfl (Nat.le_of_ble_eq_true rfl) dX1_init_11 (fun E2 H locs ee2 hw => ?_)
  have hE2 : E2 8 = .inr (1, [.null, .null, .null, .null, .null, .null, .int 0, .int 0]) := by rw [ee2, va_up_self]; rfl
  refine lv_aload_n hx hb dX1_init_14 rfl (lv_at hl 0 rfl) ?_
  refine lv_aload_n hx hb dX1_init_15 rfl (lv_at hl 1 rfl) ?_
  refine y_putF (v := .ref (ad 1)) (C := RX1) (T := TX1) (N := 8) hx hb hts inX1_init_X1 tyX1 tyX1_ok nmX1 hown hK hw hp rfl hE2 rfl 0 (by decide) (hts (.fieldLink RX1 18 "SixNumbers$Heap" "rules" "LSixNumbers$Rules;") (List.mem_of_getElem? (i := 6) rfl)) (fun _ h9 => h9) rfl hin rfl (ty := (.object "SixNumbers$Rules")) (by decide +kernel) rfl rfl (Nat.le_of_ble_eq_true rfl) dX1_init_16 (fun E3 H locs ee3 hw => ?_)
  have hE3 : E3 8 = .inr (1, [.ref (ad 1), .null, .null, .null, .null, .null, .int 0, .int 0]) := by rw [ee3, va_up_self]; rfl
  refine lv_aload_n hx hb dX1_init_19 rfl (lv_at hl 0 rfl) ?_
  refine lv_iload_n hx hb dX1_init_20 rfl (lv_at hl 2 rfl) ?_
  refine y_newa (atype := .int) hx hb (hts (.arrayClass .int) (List.mem_of_getElem? (i := 7) rfl)) rfl hK hw 9 (hS 9 (by omega)) 0 rfl (fun cA h1 h2 => Option.some.inj (h1.symm.trans h2)) (N' := 4) (a0 := (4, .inl (fun _ => 0))) (fun cA => rfl) (by decide) (by decide) (Nat.le_of_ble_eq_true rfl) (Nat.le_of_ble_eq_true rfl) (Nat.le_of_ble_eq_true rfl) dX1_init_21 (fun q1 ad1 E4 H ea1 ee4 hw => ?_)
  refine W.widen (k := 1) (n := 4) (Nat.le_of_ble_eq_true rfl) (Nat.le_of_ble_eq_true rfl) ?_
  have hA1 : ad1 8 = ad 8 := by rw [ea1, va_up_ne _ _ (by decide)]
  have hE4 : E4 8 = .inr (1, [.ref (ad 1), .null, .null, .null, .null, .null, .int 0, .int 0]) := by rw [ee4, va_up_ne _ _ (by decide)]; exact hE3
  refine y_putF (v := .ref (ad1 9)) (C := RX1) (T := TX1) (N := 8) hx hb hts inX1_init_X1 tyX1 tyX1_ok nmX1 hown hK hw (yap hp) hA1 hE4 rfl 1 (by decide) (hts (.fieldLink RX1 22 "SixNumbers$Heap" "items" "[I") (List.mem_of_getElem? (i := 8) rfl)) (fun _ h9 => h9) rfl hin rfl (ty := (.array .int)) (by decide +kernel) rfl rfl (Nat.le_of_ble_eq_true rfl) dX1_init_23 (fun E5 H locs ee5 hw => ?_)
  have hE5 : E5 8 = .inr (1, [.ref (ad 1), .ref (ad1 9), .null, .null, .null, .null, .int 0, .int 0]) := by rw [ee5, va_up_self]; rfl
  refine lv_aload_n hx hb dX1_init_26 rfl (lv_at hl 0 rfl) ?_
  refine lv_iconst (v := 1) hx hb dX1_init_27 (by decide) ?_
  refine lv_iload_n hx hb dX1_init_28 rfl (lv_at hl 2 rfl) ?_
  refine lv_ishl hx hb dX1_init_29 ?_
  rw [show ((1 : Int32) <<< ((4 : Int32) &&& 31)) = 16 by decide]
  refine lv_sipush (v := 3001) hx hb dX1_init_30 (by decide) ?_
  refine y_mna (ty := .long) (z := (3001, .inr (.inl (fun _ => 0)))) hx hb hown (hts (.classLink RX1 26 "[[J") (List.mem_of_getElem? (i := 9) rfl)) hK.2.2.2 (hts (.arrayClass .long) (List.mem_of_getElem? (i := 10) rfl)) hK hw 10 (y_nm (hS 10 (by omega)) (by decide)) 1 4 (hK.1.2 1 _ rfl).2 rfl (N' := 16) (K' := 3001) 164 (y_hr1 (y_hr1 (fun j hj hr => hS j (by omega) hj) (by omega)) (by omega)) (by decide) (by decide) (by decide) (by decide) (Nat.le_of_ble_eq_true rfl) (Nat.le_of_ble_eq_true rfl) (Nat.le_of_ble_eq_true rfl) rfl rfl (Nat.le_of_ble_eq_true rfl) (Nat.le_of_ble_eq_true rfl) (fun c9 => (y_inner c9 3001 _).trans (vp_cell_l c9 3001 _).symm) dX1_init_33 (fun q2 r2 ad2 E6 H ea2 ee6 hw => ?_)
  refine W.widen (k := 18) (n := 48036) (Nat.le_of_ble_eq_true rfl) (Nat.le_of_ble_eq_true rfl) ?_
  have hA2 : ad2 8 = ad 8 := by rw [ea2]; simp only [yur]; rw [if_neg (by decide), va_up_ne _ _ (by decide)]; exact hA1
  have hE6 : E6 8 = .inr (1, [.ref (ad 1), .ref (ad1 9), .null, .null, .null, .null, .int 0, .int 0]) := by rw [ee6]; simp only [yur]; rw [if_neg (by decide), va_up_ne _ _ (by decide)]; exact hE5
  refine y_putF (v := .ref (ad2 10)) (C := RX1) (T := TX1) (N := 8) hx hb hts inX1_init_X1 tyX1 tyX1_ok nmX1 hown hK hw (yap (yap (yap hp))) hA2 hE6 rfl 2 (by decide) (hts (.fieldLink RX1 28 "SixNumbers$Heap" "counts" "[[J") (List.mem_of_getElem? (i := 11) rfl)) (fun _ h9 => h9) rfl hin rfl (ty := (.array (.array .long))) (by decide +kernel) rfl rfl (Nat.le_of_ble_eq_true rfl) dX1_init_37 (fun E7 H locs ee7 hw => ?_)
  have hE7 : E7 8 = .inr (1, [.ref (ad 1), .ref (ad1 9), .ref (ad2 10), .null, .null, .null, .int 0, .int 0]) := by rw [ee7, va_up_self]; rfl
  refine lv_aload_n hx hb dX1_init_40 rfl (lv_at hl 0 rfl) ?_
  refine lv_iconst (v := 1) hx hb dX1_init_41 (by decide) ?_
  refine lv_iload_n hx hb dX1_init_42 rfl (lv_at hl 2 rfl) ?_
  refine lv_ishl hx hb dX1_init_43 ?_
  rw [show ((1 : Int32) <<< ((4 : Int32) &&& 31)) = 16 by decide]
  refine lv_sipush (v := 3000) hx hb dX1_init_44 (by decide) ?_
  refine y_mna (ty := .int) (z := (3000, .inl (fun _ => 0))) hx hb hown (hts (.classLink RX1 31 "[[I") (List.mem_of_getElem? (i := 12) rfl)) hK.2.2.1 (hts (.arrayClass .int) (List.mem_of_getElem? (i := 7) rfl)) hK hw 11 (y_nmr (y_nm (y_nm (hS 11 (by omega)) (by decide)) (by decide)) (by decide)) 0 3 (hK.1.2 0 _ rfl).2 rfl (N' := 16) (K' := 3000) 180 (y_hr1 (y_hrr (y_hr1 (y_hr1 (fun j hj hr => hS j (by omega) hj) (by omega)) (by omega)) (by omega)) (by omega)) (by decide) (by decide) (by decide) (by decide) (Nat.le_of_ble_eq_true rfl) (Nat.le_of_ble_eq_true rfl) (Nat.le_of_ble_eq_true rfl) rfl rfl (Nat.le_of_ble_eq_true rfl) (Nat.le_of_ble_eq_true rfl) (fun c9 => (y_inner c9 3000 _).trans (vp_cell_i c9 3000 _).symm) dX1_init_47 (fun q3 r3 ad3 E8 H ea3 ee8 hw => ?_)
  refine W.widen (k := 35) (n := 96052) (Nat.le_of_ble_eq_true rfl) (Nat.le_of_ble_eq_true rfl) ?_
  have hA3 : ad3 8 = ad 8 := by rw [ea3]; simp only [yur]; rw [if_neg (by decide), va_up_ne _ _ (by decide)]; exact hA2
  have hE8 : E8 8 = .inr (1, [.ref (ad 1), .ref (ad1 9), .ref (ad2 10), .null, .null, .null, .int 0, .int 0]) := by rw [ee8]; simp only [yur]; rw [if_neg (by decide), va_up_ne _ _ (by decide)]; exact hE7
  refine y_putF (v := .ref (ad3 11)) (C := RX1) (T := TX1) (N := 8) hx hb hts inX1_init_X1 tyX1 tyX1_ok nmX1 hown hK hw (yap (yap (yap (yap (yap hp))))) hA3 hE8 rfl 3 (by decide) (hts (.fieldLink RX1 33 "SixNumbers$Heap" "found" "[[I") (List.mem_of_getElem? (i := 13) rfl)) (fun _ h9 => h9) rfl hin rfl (ty := (.array (.array .int))) (by decide +kernel) rfl rfl (Nat.le_of_ble_eq_true rfl) dX1_init_51 (fun E9 H locs ee9 hw => ?_)
  have hE9 : E9 8 = .inr (1, [.ref (ad 1), .ref (ad1 9), .ref (ad2 10), .ref (ad3 11), .null, .null, .int 0, .int 0]) := by rw [ee9, va_up_self]; rfl
  refine lv_aload_n hx hb dX1_init_54 rfl (lv_at hl 0 rfl) ?_
  refine lv_iconst (v := 1) hx hb dX1_init_55 (by decide) ?_
  refine lv_iload_n hx hb dX1_init_56 rfl (lv_at hl 2 rfl) ?_
  refine lv_ishl hx hb dX1_init_57 ?_
  rw [show ((1 : Int32) <<< ((4 : Int32) &&& 31)) = 16 by decide]
  refine y_newa (atype := .int) hx hb (hts (.arrayClass .int) (List.mem_of_getElem? (i := 7) rfl)) rfl hK hw 12 (y_nmr (y_nm (y_nmr (y_nm (y_nm (hS 12 (by omega)) (by decide)) (by decide)) (by decide)) (by decide)) (by decide)) 0 rfl (fun cA h1 h2 => Option.some.inj (h1.symm.trans h2)) (N' := 16) (a0 := (16, .inl (fun _ => 0))) (fun cA => rfl) (by decide) (by decide) (Nat.le_of_ble_eq_true rfl) (Nat.le_of_ble_eq_true rfl) (Nat.le_of_ble_eq_true rfl) dX1_init_58 (fun q4 ad4 E10 H ea4 ee10 hw => ?_)
  refine W.widen (k := 36) (n := 96068) (Nat.le_of_ble_eq_true rfl) (Nat.le_of_ble_eq_true rfl) ?_
  have hA4 : ad4 8 = ad 8 := by rw [ea4, va_up_ne _ _ (by decide)]; exact hA3
  have hE10 : E10 8 = .inr (1, [.ref (ad 1), .ref (ad1 9), .ref (ad2 10), .ref (ad3 11), .null, .null, .int 0, .int 0]) := by rw [ee10, va_up_ne _ _ (by decide)]; exact hE9
  refine y_putF (v := .ref (ad4 12)) (C := RX1) (T := TX1) (N := 8) hx hb hts inX1_init_X1 tyX1 tyX1_ok nmX1 hown hK hw (yap (yap (yap (yap (yap (yap hp)))))) hA4 hE10 rfl 4 (by decide) (hts (.fieldLink RX1 36 "SixNumbers$Heap" "founds" "[I") (List.mem_of_getElem? (i := 14) rfl)) (fun _ h9 => h9) rfl hin rfl (ty := (.array .int)) (by decide +kernel) rfl rfl (Nat.le_of_ble_eq_true rfl) dX1_init_60 (fun E11 H locs ee11 hw => ?_)
  have hE11 : E11 8 = .inr (1, [.ref (ad 1), .ref (ad1 9), .ref (ad2 10), .ref (ad3 11), .ref (ad4 12), .null, .int 0, .int 0]) := by rw [ee11, va_up_self]; rfl
  refine lv_aload_n hx hb dX1_init_63 rfl (lv_at hl 0 rfl) ?_
  refine lv_sipush (v := 3001) hx hb dX1_init_64 (by decide) ?_
  refine y_newa (atype := .int) hx hb (hts (.arrayClass .int) (List.mem_of_getElem? (i := 7) rfl)) rfl hK hw 13 (y_nm (y_nmr (y_nm (y_nmr (y_nm (y_nm (hS 13 (by omega)) (by decide)) (by decide)) (by decide)) (by decide)) (by decide)) (by decide)) 0 rfl (fun cA h1 h2 => Option.some.inj (h1.symm.trans h2)) (N' := 3001) (a0 := (3001, .inl (fun _ => 0))) (fun cA => rfl) (by decide) (by decide) (Nat.le_of_ble_eq_true rfl) (Nat.le_of_ble_eq_true rfl) (Nat.le_of_ble_eq_true rfl) dX1_init_67 (fun q5 ad5 E12 H ea5 ee12 hw => ?_)
  refine W.widen (k := 37) (n := 99069) (Nat.le_of_ble_eq_true rfl) (Nat.le_of_ble_eq_true rfl) ?_
  have hA5 : ad5 8 = ad 8 := by rw [ea5, va_up_ne _ _ (by decide)]; exact hA4
  have hE12 : E12 8 = .inr (1, [.ref (ad 1), .ref (ad1 9), .ref (ad2 10), .ref (ad3 11), .ref (ad4 12), .null, .int 0, .int 0]) := by rw [ee12, va_up_ne _ _ (by decide)]; exact hE11
  refine y_putF (v := .ref (ad5 13)) (C := RX1) (T := TX1) (N := 8) hx hb hts inX1_init_X1 tyX1 tyX1_ok nmX1 hown hK hw (yap (yap (yap (yap (yap (yap (yap hp))))))) hA5 hE12 rfl 5 (by decide) (hts (.fieldLink RX1 39 "SixNumbers$Heap" "holders" "[I") (List.mem_of_getElem? (i := 15) rfl)) (fun _ h9 => h9) rfl hin rfl (ty := (.array .int)) (by decide +kernel) rfl rfl (Nat.le_of_ble_eq_true rfl) dX1_init_69 (fun E13 H locs ee13 hw => ?_)
  have hE13 : E13 8 = .inr (1, [.ref (ad 1), .ref (ad1 9), .ref (ad2 10), .ref (ad3 11), .ref (ad4 12), .ref (ad5 13), .int 0, .int 0]) := by rw [ee13, va_up_self]; rfl
  refine y_vret hx hb hr hlocks hK hw ?_ dX1_init_72
  subst ee1 ee2 ee3 ea1 ee4 ee5 ea2 ee6 ee7 ea3 ee8 ee9 ea4 ee10 ee11 ea5 ee12 ee13
  refine ⟨fun k hk => ?_, fun k hk hk0 => ?_, fun k hk => ?_⟩
  · dsimp only
    rw [va_up_ne _ _ (show k ≠ 13 by omega)]
    rw [va_up_ne _ _ (show k ≠ 12 by omega)]
    rw [yur_ne (by omega)]
    rw [va_up_ne _ _ (show k ≠ 11 by omega)]
    rw [yur_ne (by omega)]
    rw [va_up_ne _ _ (show k ≠ 10 by omega)]
    rw [va_up_ne _ _ (show k ≠ 9 by omega)]
  · dsimp only
    rw [va_up_ne _ _ (show k ≠ 8 by omega)]
    rw [va_up_ne _ _ (show k ≠ 13 by omega)]
    rw [va_up_ne _ _ (show k ≠ 8 by omega)]
    rw [va_up_ne _ _ (show k ≠ 12 by omega)]
    rw [va_up_ne _ _ (show k ≠ 8 by omega)]
    rw [yur_ne (by omega)]
    rw [va_up_ne _ _ (show k ≠ 11 by omega)]
    rw [va_up_ne _ _ (show k ≠ 8 by omega)]
    rw [yur_ne (by omega)]
    rw [va_up_ne _ _ (show k ≠ 10 by omega)]
    rw [va_up_ne _ _ (show k ≠ 8 by omega)]
    rw [va_up_ne _ _ (show k ≠ 9 by omega)]
    rw [va_up_ne _ _ (show k ≠ 8 by omega)]
    rw [va_up_ne _ _ (show k ≠ 8 by omega)]
    rw [va_up_ne _ _ (show k ≠ 8 by omega)]
  · rcases hk with hk | hk | hk | hk | hk | hk | hk | hk
    · subst hk
      dsimp only
      rw [va_up_self]
      rfl
    · subst hk
      dsimp only
      rw [va_up_ne _ _ (show 9 ≠ 8 by decide)]
      rw [va_up_ne _ _ (show 9 ≠ 13 by decide)]
      rw [va_up_ne _ _ (show 9 ≠ 8 by decide)]
      rw [va_up_ne _ _ (show 9 ≠ 12 by decide)]
      rw [va_up_ne _ _ (show 9 ≠ 8 by decide)]
      rw [yur_ne (by decide)]
      rw [va_up_ne _ _ (show 9 ≠ 11 by decide)]
      rw [va_up_ne _ _ (show 9 ≠ 8 by decide)]
      rw [yur_ne (by decide)]
      rw [va_up_ne _ _ (show 9 ≠ 10 by decide)]
      rw [va_up_ne _ _ (show 9 ≠ 8 by decide)]
      rw [va_up_self]
      rfl
    · subst hk
      dsimp only
      rw [va_up_ne _ _ (show 10 ≠ 8 by decide)]
      rw [va_up_ne _ _ (show 10 ≠ 13 by decide)]
      rw [va_up_ne _ _ (show 10 ≠ 8 by decide)]
      rw [va_up_ne _ _ (show 10 ≠ 12 by decide)]
      rw [va_up_ne _ _ (show 10 ≠ 8 by decide)]
      rw [yur_ne (by decide)]
      rw [va_up_ne _ _ (show 10 ≠ 11 by decide)]
      rw [va_up_ne _ _ (show 10 ≠ 8 by decide)]
      rw [yur_ne (by decide)]
      rw [va_up_self]
      refine congrArg (fun f9 => (.inl (cT 4, 16, .inr (.inr (.inr (.inr f9)))) : va_E)) (xR_ext (fun i hi => ?_))
      symm
      rw [va_up_ne _ _ (show 164 + i ≠ 13 by omega)]
      rw [va_up_ne _ _ (show 164 + i ≠ 12 by omega)]
      rw [yur_ne (by omega)]
      rw [va_up_ne _ _ (show 164 + i ≠ 11 by omega)]
    · obtain ⟨h1, h2⟩ := hk
      dsimp only
      rw [xF_r3 (by omega) (by omega)]
      rw [va_up_ne _ _ (show k ≠ 8 by omega)]
      rw [va_up_ne _ _ (show k ≠ 13 by omega)]
      rw [va_up_ne _ _ (show k ≠ 8 by omega)]
      rw [va_up_ne _ _ (show k ≠ 12 by omega)]
      rw [va_up_ne _ _ (show k ≠ 8 by omega)]
      rw [yur_ne (by omega)]
      rw [va_up_ne _ _ (show k ≠ 11 by omega)]
      rw [va_up_ne _ _ (show k ≠ 8 by omega)]
      rw [yur_in (by omega)]
      rfl
    · subst hk
      dsimp only
      rw [va_up_ne _ _ (show 11 ≠ 8 by decide)]
      rw [va_up_ne _ _ (show 11 ≠ 13 by decide)]
      rw [va_up_ne _ _ (show 11 ≠ 8 by decide)]
      rw [va_up_ne _ _ (show 11 ≠ 12 by decide)]
      rw [va_up_ne _ _ (show 11 ≠ 8 by decide)]
      rw [yur_ne (by decide)]
      rw [va_up_self]
      refine congrArg (fun f9 => (.inl (cT 3, 16, .inr (.inr (.inr (.inr f9)))) : va_E)) (xR_ext (fun i hi => ?_))
      symm
      rw [va_up_ne _ _ (show 180 + i ≠ 13 by omega)]
      rw [va_up_ne _ _ (show 180 + i ≠ 12 by omega)]
    · obtain ⟨h1, h2⟩ := hk
      dsimp only
      rw [xF_r4 (by omega) (by omega), xA0_row (show 36 ≤ k by omega)]
      rw [va_up_ne _ _ (show k ≠ 8 by omega)]
      rw [va_up_ne _ _ (show k ≠ 13 by omega)]
      rw [va_up_ne _ _ (show k ≠ 8 by omega)]
      rw [va_up_ne _ _ (show k ≠ 12 by omega)]
      rw [va_up_ne _ _ (show k ≠ 8 by omega)]
      rw [yur_in (by omega)]
      rfl
    · subst hk
      dsimp only
      rw [va_up_ne _ _ (show 12 ≠ 8 by decide)]
      rw [va_up_ne _ _ (show 12 ≠ 13 by decide)]
      rw [va_up_ne _ _ (show 12 ≠ 8 by decide)]
      rw [va_up_self]
      rfl
    · subst hk
      dsimp only
      rw [va_up_ne _ _ (show 13 ≠ 8 by decide)]
      rw [va_up_self]
      rfl
abbrev rX0_init : Room := { frames := 1, cells := 8, slots := 15025, locals := 12 }
theorem inX0_init_X0 : ∀ w ∈ wsX00, w ∈ wsX0_init := fun w h => List.mem_cons_of_mem _ (List.mem_append_right _ h)
set_option maxHeartbeats 400000 in
set_option maxRecDepth 100000 in
theorem c_X0_init {l : Launch} {D : va_G} {cT : Nat → ClassId} {b : Nat} {S : List Nat} {ad : Nat → Nat} {E : Nat → va_E} {a1 : Nat} (h1 : ad 8 = a1) {p0 : Nat} (hp : S[p0]? = some 14) (hS : ∀ k, k = 15 ∨ k = 16 ∨ (196 ≤ k ∧ k < 201) ∨ k = 17 → k ∉ S) (hE : E 14 = .inr (0, [.null, .null, .int 0, .null, .null, .int 0])) : Met l yX0_init wsX0_init rX0_init (va_Pc [.ref (ad 14), .ref a1] (yPre D cT b S ad E)) (yQ D cT b ((((S ++ [15]) ++ [16]) ++ yrg 196 5) ++ [17]) (fun u => (∀ k, ¬ (k = 15 ∨ k = 16 ∨ (196 ≤ k ∧ k < 201) ∨ k = 17) → u.1 k = ad k) ∧ (∀ k, ¬ (k = 15 ∨ k = 16 ∨ (196 ≤ k ∧ k < 201) ∨ k = 17) → k ≠ 14 → u.2 k = E k) ∧ ∀ k, (k = 14 ∨ k = 15 ∨ k = 16 ∨ (196 ≤ k ∧ k < 201) ∨ k = 17) → u.2 k = xF cT u.1 (xA0 k) (xL0 k) k)) 8 15025 (yA b) := by
  subst h1
  refine y_met RX0 rfl (by decide) rfl (Nat.le_of_ble_eq_true rfl) (fun p e s m below meth c ls hx hb hr hts hown hml hlocks hin hK hw hl => ?_)
  have hl : lv_has ls 2 [(0, .ref (ad 14)), (1, .ref (ad 8))] := hl
  refine lv_aload_n hx hb dX0_init_0 rfl (lv_at hl 0 rfl) ?_
  refine W.objInit hx hb hown (hts (.methodLink RX0 3 objectInit) (List.mem_of_getElem? (i := 1) rfl)) (hts (.instanceMethod objectInit) (List.mem_of_getElem? (i := 2) rfl)) (hts (.code objectInit ⟨#[0xb1]⟩ 1 none) (List.mem_of_getElem? (i := 3) rfl)) rfl (by rw [hml]; exact hl.1) rfl dX0_init_1 (Nat.le_of_ble_eq_true rfl) (Nat.le_of_ble_eq_true rfl) ?_
  refine W.eq (g2 := F0 m 4 ls []) rfl ?_
  refine lv_aload_n hx hb dX0_init_4 rfl (lv_at hl 0 rfl) ?_
  refine lv_bipush (v := 10) hx hb dX0_init_5 (by decide) ?_
  refine y_newa (atype := .int) hx hb (hts (.arrayClass .int) (List.mem_of_getElem? (i := 4) rfl)) rfl hK hw 15 (hS 15 (by omega)) 0 rfl (fun cA h1 h2 => Option.some.inj (h1.symm.trans h2)) (N' := 10) (a0 := (10, .inl (fun _ => 0))) (fun cA => rfl) (by decide) (by decide) (Nat.le_of_ble_eq_true rfl) (Nat.le_of_ble_eq_true rfl) (Nat.le_of_ble_eq_true rfl) dX0_init_7 (fun q1 ad1 E1 H ea1 ee1 hw => ?_)
  refine W.widen (k := 1) (n := 10) (Nat.le_of_ble_eq_true rfl) (Nat.le_of_ble_eq_true rfl) ?_
  have hA1 : ad1 14 = ad 14 := by rw [ea1, va_up_ne _ _ (by decide)]
  have hE1 : E1 14 = .inr (0, [.null, .null, .int 0, .null, .null, .int 0]) := by rw [ee1, va_up_ne _ _ (by decide)]; exact hE
  refine y_putF (v := .ref (ad1 15)) (C := RX0) (T := TX0) (N := 6) hx hb hts inX0_init_X0 tyX0 tyX0_ok nmX0 hown hK hw (yap hp) hA1 hE1 rfl 1 (by decide) (hts (.fieldLink RX0 9 "SixNumbers$Box" "cards" "[I") (List.mem_of_getElem? (i := 5) rfl)) (fun _ h9 => h9) rfl hin rfl (ty := (.array .int)) (by decide +kernel) rfl rfl (Nat.le_of_ble_eq_true rfl) dX0_init_9 (fun E2 H locs ee2 hw => ?_)
  have hE2 : E2 14 = .inr (0, [.null, .ref (ad1 15), .int 0, .null, .null, .int 0]) := by rw [ee2, va_up_self]; rfl
  refine lv_aload_n hx hb dX0_init_12 rfl (lv_at hl 0 rfl) ?_
  refine lv_iconst (v := 0) hx hb dX0_init_13 (by decide) ?_
  refine y_put (v := .int 0) (C := RX0) (T := TX0) (N := 6) hx hb hts inX0_init_X0 tyX0 tyX0_ok nmX0 hown hK hw (yap hp) hA1 hE2 rfl 2 (by decide) (hts (.fieldLink RX0 15 "SixNumbers$Box" "size" "I") (List.mem_of_getElem? (i := 6) rfl)) (fun _ h9 => h9) rfl (ty := .int) (by decide +kernel) rfl rfl (Nat.le_of_ble_eq_true rfl) dX0_init_14 (fun E3 H locs ee3 hw => ?_)
  have hE3 : E3 14 = .inr (0, [.null, .ref (ad1 15), .int 0, .null, .null, .int 0]) := by rw [ee3, va_up_self]; rfl
  refine lv_aload_n hx hb dX0_init_17 rfl (lv_at hl 0 rfl) ?_
  refine lv_iconst (v := 5) hx hb dX0_init_18 (by decide) ?_
  refine lv_sipush (v := 3001) hx hb dX0_init_19 (by decide) ?_
  refine y_mna (ty := .int) (z := (3001, .inl (fun _ => 0))) hx hb hown (hts (.classLink RX0 19 "[[I") (List.mem_of_getElem? (i := 7) rfl)) hK.2.2.1 (hts (.arrayClass .int) (List.mem_of_getElem? (i := 4) rfl)) hK hw 16 (y_nm (hS 16 (by omega)) (by decide)) 0 3 (hK.1.2 0 _ rfl).2 rfl (N' := 5) (K' := 3001) 196 (y_hr1 (y_hr1 (fun j hj hr => hS j (by omega) hj) (by omega)) (by omega)) (by decide) (by decide) (by decide) (by decide) (Nat.le_of_ble_eq_true rfl) (Nat.le_of_ble_eq_true rfl) (Nat.le_of_ble_eq_true rfl) rfl rfl (Nat.le_of_ble_eq_true rfl) (Nat.le_of_ble_eq_true rfl) (fun c9 => (y_inner c9 3001 _).trans (vp_cell_i c9 3001 _).symm) dX0_init_22 (fun q2 r2 ad2 E4 H ea2 ee4 hw => ?_)
  refine W.widen (k := 7) (n := 15020) (Nat.le_of_ble_eq_true rfl) (Nat.le_of_ble_eq_true rfl) ?_
  have hA2 : ad2 14 = ad 14 := by rw [ea2]; simp only [yur]; rw [if_neg (by decide), va_up_ne _ _ (by decide)]; exact hA1
  have hE4 : E4 14 = .inr (0, [.null, .ref (ad1 15), .int 0, .null, .null, .int 0]) := by rw [ee4]; simp only [yur]; rw [if_neg (by decide), va_up_ne _ _ (by decide)]; exact hE3
  refine y_putF (v := .ref (ad2 16)) (C := RX0) (T := TX0) (N := 6) hx hb hts inX0_init_X0 tyX0 tyX0_ok nmX0 hown hK hw (yap (yap (yap hp))) hA2 hE4 rfl 3 (by decide) (hts (.fieldLink RX0 21 "SixNumbers$Box" "tallies" "[[I") (List.mem_of_getElem? (i := 8) rfl)) (fun _ h9 => h9) rfl hin rfl (ty := (.array (.array .int))) (by decide +kernel) rfl rfl (Nat.le_of_ble_eq_true rfl) dX0_init_26 (fun E5 H locs ee5 hw => ?_)
  have hE5 : E5 14 = .inr (0, [.null, .ref (ad1 15), .int 0, .ref (ad2 16), .null, .int 0]) := by rw [ee5, va_up_self]; rfl
  refine lv_aload_n hx hb dX0_init_29 rfl (lv_at hl 0 rfl) ?_
  refine lv_iconst (v := 5) hx hb dX0_init_30 (by decide) ?_
  refine y_newa (atype := .int) hx hb (hts (.arrayClass .int) (List.mem_of_getElem? (i := 4) rfl)) rfl hK hw 17 (y_nmr (y_nm (y_nm (hS 17 (by omega)) (by decide)) (by decide)) (by decide)) 0 rfl (fun cA h1 h2 => Option.some.inj (h1.symm.trans h2)) (N' := 5) (a0 := (5, .inl (fun _ => 0))) (fun cA => rfl) (by decide) (by decide) (Nat.le_of_ble_eq_true rfl) (Nat.le_of_ble_eq_true rfl) (Nat.le_of_ble_eq_true rfl) dX0_init_31 (fun q3 ad3 E6 H ea3 ee6 hw => ?_)
  refine W.widen (k := 8) (n := 15025) (Nat.le_of_ble_eq_true rfl) (Nat.le_of_ble_eq_true rfl) ?_
  have hA3 : ad3 14 = ad 14 := by rw [ea3, va_up_ne _ _ (by decide)]; exact hA2
  have hE6 : E6 14 = .inr (0, [.null, .ref (ad1 15), .int 0, .ref (ad2 16), .null, .int 0]) := by rw [ee6, va_up_ne _ _ (by decide)]; exact hE5
  refine y_putF (v := .ref (ad3 17)) (C := RX0) (T := TX0) (N := 6) hx hb hts inX0_init_X0 tyX0 tyX0_ok nmX0 hown hK hw (yap (yap (yap (yap hp)))) hA3 hE6 rfl 4 (by decide) (hts (.fieldLink RX0 24 "SixNumbers$Box" "totals" "[I") (List.mem_of_getElem? (i := 9) rfl)) (fun _ h9 => h9) rfl hin rfl (ty := (.array .int)) (by decide +kernel) rfl rfl (Nat.le_of_ble_eq_true rfl) dX0_init_33 (fun E7 H locs ee7 hw => ?_)
  have hE7 : E7 14 = .inr (0, [.null, .ref (ad1 15), .int 0, .ref (ad2 16), .ref (ad3 17), .int 0]) := by rw [ee7, va_up_self]; rfl
  refine lv_aload_n hx hb dX0_init_36 rfl (lv_at hl 0 rfl) ?_
  refine lv_iconst (v := 0) hx hb dX0_init_37 (by decide) ?_
  refine y_put (v := .int 0) (C := RX0) (T := TX0) (N := 6) hx hb hts inX0_init_X0 tyX0 tyX0_ok nmX0 hown hK hw (yap (yap (yap (yap hp)))) hA3 hE7 rfl 5 (by decide) (hts (.fieldLink RX0 27 "SixNumbers$Box" "counted" "I") (List.mem_of_getElem? (i := 10) rfl)) (fun _ h9 => h9) rfl (ty := .int) (by decide +kernel) rfl rfl (Nat.le_of_ble_eq_true rfl) dX0_init_38 (fun E8 H locs ee8 hw => ?_)
  have hE8 : E8 14 = .inr (0, [.null, .ref (ad1 15), .int 0, .ref (ad2 16), .ref (ad3 17), .int 0]) := by rw [ee8, va_up_self]; rfl
  refine lv_aload_n hx hb dX0_init_41 rfl (lv_at hl 0 rfl) ?_
  refine lv_aload_n hx hb dX0_init_42 rfl (lv_at hl 1 rfl) ?_
  refine y_putF (v := .ref (ad 8)) (C := RX0) (T := TX0) (N := 6) hx hb hts inX0_init_X0 tyX0 tyX0_ok nmX0 hown hK hw (yap (yap (yap (yap hp)))) hA3 hE8 rfl 0 (by decide) (hts (.fieldLink RX0 30 "SixNumbers$Box" "trial" "LSixNumbers$Heap;") (List.mem_of_getElem? (i := 11) rfl)) (fun _ h9 => h9) rfl hin rfl (ty := (.object "SixNumbers$Heap")) (by decide +kernel) rfl rfl (Nat.le_of_ble_eq_true rfl) dX0_init_43 (fun E9 H locs ee9 hw => ?_)
  have hE9 : E9 14 = .inr (0, [.ref (ad 8), .ref (ad1 15), .int 0, .ref (ad2 16), .ref (ad3 17), .int 0]) := by rw [ee9, va_up_self]; rfl
  refine y_vret hx hb hr hlocks hK hw ?_ dX0_init_46
  subst ea1 ee1 ee2 ee3 ea2 ee4 ee5 ea3 ee6 ee7 ee8 ee9
  refine ⟨fun k hk => ?_, fun k hk hk0 => ?_, fun k hk => ?_⟩
  · dsimp only
    rw [va_up_ne _ _ (show k ≠ 17 by omega)]
    rw [yur_ne (by omega)]
    rw [va_up_ne _ _ (show k ≠ 16 by omega)]
    rw [va_up_ne _ _ (show k ≠ 15 by omega)]
  · dsimp only
    rw [va_up_ne _ _ (show k ≠ 14 by omega)]
    rw [va_up_ne _ _ (show k ≠ 14 by omega)]
    rw [va_up_ne _ _ (show k ≠ 14 by omega)]
    rw [va_up_ne _ _ (show k ≠ 17 by omega)]
    rw [va_up_ne _ _ (show k ≠ 14 by omega)]
    rw [yur_ne (by omega)]
    rw [va_up_ne _ _ (show k ≠ 16 by omega)]
    rw [va_up_ne _ _ (show k ≠ 14 by omega)]
    rw [va_up_ne _ _ (show k ≠ 14 by omega)]
    rw [va_up_ne _ _ (show k ≠ 15 by omega)]
  · rcases hk with hk | hk | hk | hk | hk
    · subst hk
      dsimp only
      rw [va_up_self]
      rfl
    · subst hk
      dsimp only
      rw [va_up_ne _ _ (show 15 ≠ 14 by decide)]
      rw [va_up_ne _ _ (show 15 ≠ 14 by decide)]
      rw [va_up_ne _ _ (show 15 ≠ 14 by decide)]
      rw [va_up_ne _ _ (show 15 ≠ 17 by decide)]
      rw [va_up_ne _ _ (show 15 ≠ 14 by decide)]
      rw [yur_ne (by decide)]
      rw [va_up_ne _ _ (show 15 ≠ 16 by decide)]
      rw [va_up_ne _ _ (show 15 ≠ 14 by decide)]
      rw [va_up_ne _ _ (show 15 ≠ 14 by decide)]
      rw [va_up_self]
      rfl
    · subst hk
      dsimp only
      rw [va_up_ne _ _ (show 16 ≠ 14 by decide)]
      rw [va_up_ne _ _ (show 16 ≠ 14 by decide)]
      rw [va_up_ne _ _ (show 16 ≠ 14 by decide)]
      rw [va_up_ne _ _ (show 16 ≠ 17 by decide)]
      rw [va_up_ne _ _ (show 16 ≠ 14 by decide)]
      rw [yur_ne (by decide)]
      rw [va_up_self]
      refine congrArg (fun f9 => (.inl (cT 3, 5, .inr (.inr (.inr (.inr f9)))) : va_E)) (xR_ext (fun i hi => ?_))
      symm
      rw [va_up_ne _ _ (show 196 + i ≠ 17 by omega)]
    · obtain ⟨h1, h2⟩ := hk
      dsimp only
      rw [xF_r5 (by omega), xA0_row (show 36 ≤ k by omega)]
      rw [va_up_ne _ _ (show k ≠ 14 by omega)]
      rw [va_up_ne _ _ (show k ≠ 14 by omega)]
      rw [va_up_ne _ _ (show k ≠ 14 by omega)]
      rw [va_up_ne _ _ (show k ≠ 17 by omega)]
      rw [va_up_ne _ _ (show k ≠ 14 by omega)]
      rw [yur_in (by omega)]
      rfl
    · subst hk
      dsimp only
      rw [va_up_ne _ _ (show 17 ≠ 14 by decide)]
      rw [va_up_ne _ _ (show 17 ≠ 14 by decide)]
      rw [va_up_ne _ _ (show 17 ≠ 14 by decide)]
      rw [va_up_self]
      rfl
abbrev rX6_init : Room := { frames := 1, cells := 12, slots := 208451, locals := 12 }
theorem inX6_init_X6 : ∀ w ∈ wsX60, w ∈ wsX6_init := fun w h => List.mem_cons_of_mem _ (List.mem_append_right _ h)
set_option maxHeartbeats 400000 in
set_option maxRecDepth 100000 in
theorem c_X6_init {l : Launch} {D : va_G} {cT : Nat → ClassId} {b : Nat} {S : List Nat} {ad : Nat → Nat} {E : Nat → va_E} {p0 : Nat} (hp : S[p0]? = some 23) (hS : ∀ k, k = 24 ∨ k = 25 ∨ k = 26 ∨ k = 27 ∨ k = 28 ∨ k = 29 ∨ k = 30 ∨ k = 31 ∨ k = 32 ∨ k = 33 ∨ k = 34 ∨ k = 35 → k ∉ S) (hE : E 23 = .inr (6, [.int 0, .null, .int 0, .int 0, .int 0, .null, .null, .int 0, .null, .int 0, .null, .null, .null, .int 0, .null, .null, .int 0, .null, .null, .null])) : Met l yX6_init wsX6_init rX6_init (va_Pc [.ref (ad 23)] (yPre D cT b S ad E)) (yQ D cT b ((((((((((((S ++ [24]) ++ [25]) ++ [26]) ++ [27]) ++ [28]) ++ [29]) ++ [30]) ++ [31]) ++ [32]) ++ [33]) ++ [34]) ++ [35]) (fun u => (∀ k, ¬ (k = 24 ∨ k = 25 ∨ k = 26 ∨ k = 27 ∨ k = 28 ∨ k = 29 ∨ k = 30 ∨ k = 31 ∨ k = 32 ∨ k = 33 ∨ k = 34 ∨ k = 35) → u.1 k = ad k) ∧ (∀ k, ¬ (k = 24 ∨ k = 25 ∨ k = 26 ∨ k = 27 ∨ k = 28 ∨ k = 29 ∨ k = 30 ∨ k = 31 ∨ k = 32 ∨ k = 33 ∨ k = 34 ∨ k = 35) → k ≠ 23 → u.2 k = E k) ∧ ∀ k, (k = 23 ∨ k = 24 ∨ k = 25 ∨ k = 26 ∨ k = 27 ∨ k = 28 ∨ k = 29 ∨ k = 30 ∨ k = 31 ∨ k = 32 ∨ k = 33 ∨ k = 34 ∨ k = 35) → u.2 k = xF cT u.1 (xA0 k) (xL0 k) k)) 12 208451 (yA b) := by
  refine y_met RX6 rfl (by decide) rfl (Nat.le_of_ble_eq_true rfl) (fun p e s m below meth c ls hx hb hr hts hown hml hlocks hin hK hw hl => ?_)
  have hl : lv_has ls 1 [(0, .ref (ad 23))] := hl
  refine lv_aload_n hx hb dX6_init_0 rfl (lv_at hl 0 rfl) ?_
  refine W.objInit hx hb hown (hts (.methodLink RX6 1 objectInit) (List.mem_of_getElem? (i := 1) rfl)) (hts (.instanceMethod objectInit) (List.mem_of_getElem? (i := 2) rfl)) (hts (.code objectInit ⟨#[0xb1]⟩ 1 none) (List.mem_of_getElem? (i := 3) rfl)) rfl (by rw [hml]; exact hl.1) rfl dX6_init_1 (Nat.le_of_ble_eq_true rfl) (Nat.le_of_ble_eq_true rfl) ?_
  refine W.eq (g2 := F0 m 4 ls []) rfl ?_
  refine lv_aload_n hx hb dX6_init_4 rfl (lv_at hl 0 rfl) ?_
  refine lv_bipush (v := 6) hx hb dX6_init_5 (by decide) ?_
  refine y_newa (atype := .int) hx hb (hts (.arrayClass .int) (List.mem_of_getElem? (i := 4) rfl)) rfl hK hw 24 (hS 24 (by omega)) 0 rfl (fun cA h1 h2 => Option.some.inj (h1.symm.trans h2)) (N' := 6) (a0 := (6, .inl (fun _ => 0))) (fun cA => rfl) (by decide) (by decide) (Nat.le_of_ble_eq_true rfl) (Nat.le_of_ble_eq_true rfl) (Nat.le_of_ble_eq_true rfl) dX6_init_7 (fun q1 ad1 E1 H ea1 ee1 hw => ?_)
  refine W.widen (k := 1) (n := 6) (Nat.le_of_ble_eq_true rfl) (Nat.le_of_ble_eq_true rfl) ?_
  have hA1 : ad1 23 = ad 23 := by rw [ea1, va_up_ne _ _ (by decide)]
  have hE1 : E1 23 = .inr (6, [.int 0, .null, .int 0, .int 0, .int 0, .null, .null, .int 0, .null, .int 0, .null, .null, .null, .int 0, .null, .null, .int 0, .null, .null, .null]) := by rw [ee1, va_up_ne _ _ (by decide)]; exact hE
  refine y_putF (v := .ref (ad1 24)) (C := RX6) (T := TX6) (N := 20) hx hb hts inX6_init_X6 tyX6 tyX6_ok nmX6 hown hK hw (yap hp) hA1 hE1 rfl 1 (by decide) (hts (.fieldLink RX6 7 "SixNumbersModel" "numbers" "[I") (List.mem_of_getElem? (i := 5) rfl)) (fun _ h9 => h9) rfl hin rfl (ty := (.array .int)) (by decide +kernel) rfl rfl (Nat.le_of_ble_eq_true rfl) dX6_init_9 (fun E2 H locs ee2 hw => ?_)
  have hE2 : E2 23 = .inr (6, [.int 0, .ref (ad1 24), .int 0, .int 0, .int 0, .null, .null, .int 0, .null, .int 0, .null, .null, .null, .int 0, .null, .null, .int 0, .null, .null, .null]) := by rw [ee2, va_up_self]; rfl
  refine lv_aload_n hx hb dX6_init_12 rfl (lv_at hl 0 rfl) ?_
  refine lv_bipush (v := 15) hx hb dX6_init_13 (by decide) ?_
  refine y_put (v := .int 15) (C := RX6) (T := TX6) (N := 20) hx hb hts inX6_init_X6 tyX6 tyX6_ok nmX6 hown hK hw (yap hp) hA1 hE2 rfl 2 (by decide) (hts (.fieldLink RX6 13 "SixNumbersModel" "acts" "I") (List.mem_of_getElem? (i := 6) rfl)) (fun _ h9 => h9) rfl (ty := .int) (by decide +kernel) rfl rfl (Nat.le_of_ble_eq_true rfl) dX6_init_15 (fun E3 H locs ee3 hw => ?_)
  have hE3 : E3 23 = .inr (6, [.int 0, .ref (ad1 24), .int 15, .int 0, .int 0, .null, .null, .int 0, .null, .int 0, .null, .null, .null, .int 0, .null, .null, .int 0, .null, .null, .null]) := by rw [ee3, va_up_self]; rfl
  refine lv_aload_n hx hb dX6_init_18 rfl (lv_at hl 0 rfl) ?_
  refine lv_sipush (v := 3000) hx hb dX6_init_19 (by decide) ?_
  refine y_put (v := .int 3000) (C := RX6) (T := TX6) (N := 20) hx hb hts inX6_init_X6 tyX6 tyX6_ok nmX6 hown hK hw (yap hp) hA1 hE3 rfl 3 (by decide) (hts (.fieldLink RX6 17 "SixNumbersModel" "most" "I") (List.mem_of_getElem? (i := 7) rfl)) (fun _ h9 => h9) rfl (ty := .int) (by decide +kernel) rfl rfl (Nat.le_of_ble_eq_true rfl) dX6_init_22 (fun E4 H locs ee4 hw => ?_)
  have hE4 : E4 23 = .inr (6, [.int 0, .ref (ad1 24), .int 15, .int 3000, .int 0, .null, .null, .int 0, .null, .int 0, .null, .null, .null, .int 0, .null, .null, .int 0, .null, .null, .null]) := by rw [ee4, va_up_self]; rfl
  refine lv_aload_n hx hb dX6_init_25 rfl (lv_at hl 0 rfl) ?_
  refine lv_bipush (v := 10) hx hb dX6_init_26 (by decide) ?_
  refine y_newa (atype := .int) hx hb (hts (.arrayClass .int) (List.mem_of_getElem? (i := 4) rfl)) rfl hK hw 25 (y_nm (hS 25 (by omega)) (by decide)) 0 rfl (fun cA h1 h2 => Option.some.inj (h1.symm.trans h2)) (N' := 10) (a0 := (10, .inl (fun _ => 0))) (fun cA => rfl) (by decide) (by decide) (Nat.le_of_ble_eq_true rfl) (Nat.le_of_ble_eq_true rfl) (Nat.le_of_ble_eq_true rfl) dX6_init_28 (fun q2 ad2 E5 H ea2 ee5 hw => ?_)
  refine W.widen (k := 2) (n := 16) (Nat.le_of_ble_eq_true rfl) (Nat.le_of_ble_eq_true rfl) ?_
  have hA2 : ad2 23 = ad 23 := by rw [ea2, va_up_ne _ _ (by decide)]; exact hA1
  have hE5 : E5 23 = .inr (6, [.int 0, .ref (ad1 24), .int 15, .int 3000, .int 0, .null, .null, .int 0, .null, .int 0, .null, .null, .null, .int 0, .null, .null, .int 0, .null, .null, .null]) := by rw [ee5, va_up_ne _ _ (by decide)]; exact hE4
  refine y_putF (v := .ref (ad2 25)) (C := RX6) (T := TX6) (N := 20) hx hb hts inX6_init_X6 tyX6 tyX6_ok nmX6 hown hK hw (yap (yap hp)) hA2 hE5 rfl 5 (by decide) (hts (.fieldLink RX6 20 "SixNumbersModel" "box" "[I") (List.mem_of_getElem? (i := 8) rfl)) (fun _ h9 => h9) rfl hin rfl (ty := (.array .int)) (by decide +kernel) rfl rfl (Nat.le_of_ble_eq_true rfl) dX6_init_30 (fun E6 H locs ee6 hw => ?_)
  have hE6 : E6 23 = .inr (6, [.int 0, .ref (ad1 24), .int 15, .int 3000, .int 0, .ref (ad2 25), .null, .int 0, .null, .int 0, .null, .null, .null, .int 0, .null, .null, .int 0, .null, .null, .null]) := by rw [ee6, va_up_self]; rfl
  refine lv_aload_n hx hb dX6_init_33 rfl (lv_at hl 0 rfl) ?_
  refine lv_bipush (v := 100) hx hb dX6_init_34 (by decide) ?_
  refine y_newa (atype := .int) hx hb (hts (.arrayClass .int) (List.mem_of_getElem? (i := 4) rfl)) rfl hK hw 26 (y_nm (y_nm (hS 26 (by omega)) (by decide)) (by decide)) 0 rfl (fun cA h1 h2 => Option.some.inj (h1.symm.trans h2)) (N' := 100) (a0 := (100, .inl (fun _ => 0))) (fun cA => rfl) (by decide) (by decide) (Nat.le_of_ble_eq_true rfl) (Nat.le_of_ble_eq_true rfl) (Nat.le_of_ble_eq_true rfl) dX6_init_36 (fun q3 ad3 E7 H ea3 ee7 hw => ?_)
  refine W.widen (k := 3) (n := 116) (Nat.le_of_ble_eq_true rfl) (Nat.le_of_ble_eq_true rfl) ?_
  have hA3 : ad3 23 = ad 23 := by rw [ea3, va_up_ne _ _ (by decide)]; exact hA2
  have hE7 : E7 23 = .inr (6, [.int 0, .ref (ad1 24), .int 15, .int 3000, .int 0, .ref (ad2 25), .null, .int 0, .null, .int 0, .null, .null, .null, .int 0, .null, .null, .int 0, .null, .null, .null]) := by rw [ee7, va_up_ne _ _ (by decide)]; exact hE6
  refine y_putF (v := .ref (ad3 26)) (C := RX6) (T := TX6) (N := 20) hx hb hts inX6_init_X6 tyX6 tyX6_ok nmX6 hown hK hw (yap (yap (yap hp))) hA3 hE7 rfl 6 (by decide) (hts (.fieldLink RX6 23 "SixNumbersModel" "out" "[I") (List.mem_of_getElem? (i := 9) rfl)) (fun _ h9 => h9) rfl hin rfl (ty := (.array .int)) (by decide +kernel) rfl rfl (Nat.le_of_ble_eq_true rfl) dX6_init_38 (fun E8 H locs ee8 hw => ?_)
  have hE8 : E8 23 = .inr (6, [.int 0, .ref (ad1 24), .int 15, .int 3000, .int 0, .ref (ad2 25), .ref (ad3 26), .int 0, .null, .int 0, .null, .null, .null, .int 0, .null, .null, .int 0, .null, .null, .null]) := by rw [ee8, va_up_self]; rfl
  refine lv_aload_n hx hb dX6_init_41 rfl (lv_at hl 0 rfl) ?_
  refine lv_bipush (v := 6) hx hb dX6_init_42 (by decide) ?_
  refine y_newa (atype := .int) hx hb (hts (.arrayClass .int) (List.mem_of_getElem? (i := 4) rfl)) rfl hK hw 27 (y_nm (y_nm (y_nm (hS 27 (by omega)) (by decide)) (by decide)) (by decide)) 0 rfl (fun cA h1 h2 => Option.some.inj (h1.symm.trans h2)) (N' := 6) (a0 := (6, .inl (fun _ => 0))) (fun cA => rfl) (by decide) (by decide) (Nat.le_of_ble_eq_true rfl) (Nat.le_of_ble_eq_true rfl) (Nat.le_of_ble_eq_true rfl) dX6_init_44 (fun q4 ad4 E9 H ea4 ee9 hw => ?_)
  refine W.widen (k := 4) (n := 122) (Nat.le_of_ble_eq_true rfl) (Nat.le_of_ble_eq_true rfl) ?_
  have hA4 : ad4 23 = ad 23 := by rw [ea4, va_up_ne _ _ (by decide)]; exact hA3
  have hE9 : E9 23 = .inr (6, [.int 0, .ref (ad1 24), .int 15, .int 3000, .int 0, .ref (ad2 25), .ref (ad3 26), .int 0, .null, .int 0, .null, .null, .null, .int 0, .null, .null, .int 0, .null, .null, .null]) := by rw [ee9, va_up_ne _ _ (by decide)]; exact hE8
  refine y_putF (v := .ref (ad4 27)) (C := RX6) (T := TX6) (N := 20) hx hb hts inX6_init_X6 tyX6 tyX6_ok nmX6 hown hK hw (yap (yap (yap (yap hp)))) hA4 hE9 rfl 8 (by decide) (hts (.fieldLink RX6 26 "SixNumbersModel" "work" "[I") (List.mem_of_getElem? (i := 10) rfl)) (fun _ h9 => h9) rfl hin rfl (ty := (.array .int)) (by decide +kernel) rfl rfl (Nat.le_of_ble_eq_true rfl) dX6_init_46 (fun E10 H locs ee10 hw => ?_)
  have hE10 : E10 23 = .inr (6, [.int 0, .ref (ad1 24), .int 15, .int 3000, .int 0, .ref (ad2 25), .ref (ad3 26), .int 0, .ref (ad4 27), .int 0, .null, .null, .null, .int 0, .null, .null, .int 0, .null, .null, .null]) := by rw [ee10, va_up_self]; rfl
  refine lv_aload_n hx hb dX6_init_49 rfl (lv_at hl 0 rfl) ?_
  refine lv_ldc (v := 192064) hx hb hown (hts _ (List.mem_of_getElem? (i := 11) rfl)) dX6_init_50 ?_
  refine y_newa (atype := .long) hx hb (hts (.arrayClass .long) (List.mem_of_getElem? (i := 12) rfl)) rfl hK hw 28 (y_nm (y_nm (y_nm (y_nm (hS 28 (by omega)) (by decide)) (by decide)) (by decide)) (by decide)) 1 rfl (fun cA h1 h2 => Option.some.inj (h1.symm.trans h2)) (N' := 192064) (a0 := (192064, .inr (.inl (fun _ => 0)))) (fun cA => rfl) (by decide) (by decide) (Nat.le_of_ble_eq_true rfl) (Nat.le_of_ble_eq_true rfl) (Nat.le_of_ble_eq_true rfl) dX6_init_52 (fun q5 ad5 E11 H ea5 ee11 hw => ?_)
  refine W.widen (k := 5) (n := 192186) (Nat.le_of_ble_eq_true rfl) (Nat.le_of_ble_eq_true rfl) ?_
  have hA5 : ad5 23 = ad 23 := by rw [ea5, va_up_ne _ _ (by decide)]; exact hA4
  have hE11 : E11 23 = .inr (6, [.int 0, .ref (ad1 24), .int 15, .int 3000, .int 0, .ref (ad2 25), .ref (ad3 26), .int 0, .ref (ad4 27), .int 0, .null, .null, .null, .int 0, .null, .null, .int 0, .null, .null, .null]) := by rw [ee11, va_up_ne _ _ (by decide)]; exact hE10
  refine y_putF (v := .ref (ad5 28)) (C := RX6) (T := TX6) (N := 20) hx hb hts inX6_init_X6 tyX6 tyX6_ok nmX6 hown hK hw (yap (yap (yap (yap (yap hp))))) hA5 hE11 rfl 10 (by decide) (hts (.fieldLink RX6 30 "SixNumbersModel" "ways" "[J") (List.mem_of_getElem? (i := 13) rfl)) (fun _ h9 => h9) rfl hin rfl (ty := (.array .long)) (by decide +kernel) rfl rfl (Nat.le_of_ble_eq_true rfl) dX6_init_54 (fun E12 H locs ee12 hw => ?_)
  have hE12 : E12 23 = .inr (6, [.int 0, .ref (ad1 24), .int 15, .int 3000, .int 0, .ref (ad2 25), .ref (ad3 26), .int 0, .ref (ad4 27), .int 0, .ref (ad5 28), .null, .null, .int 0, .null, .null, .int 0, .null, .null, .null]) := by rw [ee12, va_up_self]; rfl
  refine lv_aload_n hx hb dX6_init_57 rfl (lv_at hl 0 rfl) ?_
  refine lv_sipush (v := 3001) hx hb dX6_init_58 (by decide) ?_
  refine y_newa (atype := .int) hx hb (hts (.arrayClass .int) (List.mem_of_getElem? (i := 4) rfl)) rfl hK hw 29 (y_nm (y_nm (y_nm (y_nm (y_nm (hS 29 (by omega)) (by decide)) (by decide)) (by decide)) (by decide)) (by decide)) 0 rfl (fun cA h1 h2 => Option.some.inj (h1.symm.trans h2)) (N' := 3001) (a0 := (3001, .inl (fun _ => 0))) (fun cA => rfl) (by decide) (by decide) (Nat.le_of_ble_eq_true rfl) (Nat.le_of_ble_eq_true rfl) (Nat.le_of_ble_eq_true rfl) dX6_init_61 (fun q6 ad6 E13 H ea6 ee13 hw => ?_)
  refine W.widen (k := 6) (n := 195187) (Nat.le_of_ble_eq_true rfl) (Nat.le_of_ble_eq_true rfl) ?_
  have hA6 : ad6 23 = ad 23 := by rw [ea6, va_up_ne _ _ (by decide)]; exact hA5
  have hE13 : E13 23 = .inr (6, [.int 0, .ref (ad1 24), .int 15, .int 3000, .int 0, .ref (ad2 25), .ref (ad3 26), .int 0, .ref (ad4 27), .int 0, .ref (ad5 28), .null, .null, .int 0, .null, .null, .int 0, .null, .null, .null]) := by rw [ee13, va_up_ne _ _ (by decide)]; exact hE12
  refine y_putF (v := .ref (ad6 29)) (C := RX6) (T := TX6) (N := 20) hx hb hts inX6_init_X6 tyX6 tyX6_ok nmX6 hown hK hw (yap (yap (yap (yap (yap (yap hp)))))) hA6 hE13 rfl 11 (by decide) (hts (.fieldLink RX6 34 "SixNumbersModel" "lefts" "[I") (List.mem_of_getElem? (i := 14) rfl)) (fun _ h9 => h9) rfl hin rfl (ty := (.array .int)) (by decide +kernel) rfl rfl (Nat.le_of_ble_eq_true rfl) dX6_init_63 (fun E14 H locs ee14 hw => ?_)
  have hE14 : E14 23 = .inr (6, [.int 0, .ref (ad1 24), .int 15, .int 3000, .int 0, .ref (ad2 25), .ref (ad3 26), .int 0, .ref (ad4 27), .int 0, .ref (ad5 28), .ref (ad6 29), .null, .int 0, .null, .null, .int 0, .null, .null, .null]) := by rw [ee14, va_up_self]; rfl
  refine lv_aload_n hx hb dX6_init_66 rfl (lv_at hl 0 rfl) ?_
  refine lv_sipush (v := 3001) hx hb dX6_init_67 (by decide) ?_
  refine y_newa (atype := .int) hx hb (hts (.arrayClass .int) (List.mem_of_getElem? (i := 4) rfl)) rfl hK hw 30 (y_nm (y_nm (y_nm (y_nm (y_nm (y_nm (hS 30 (by omega)) (by decide)) (by decide)) (by decide)) (by decide)) (by decide)) (by decide)) 0 rfl (fun cA h1 h2 => Option.some.inj (h1.symm.trans h2)) (N' := 3001) (a0 := (3001, .inl (fun _ => 0))) (fun cA => rfl) (by decide) (by decide) (Nat.le_of_ble_eq_true rfl) (Nat.le_of_ble_eq_true rfl) (Nat.le_of_ble_eq_true rfl) dX6_init_70 (fun q7 ad7 E15 H ea7 ee15 hw => ?_)
  refine W.widen (k := 7) (n := 198188) (Nat.le_of_ble_eq_true rfl) (Nat.le_of_ble_eq_true rfl) ?_
  have hA7 : ad7 23 = ad 23 := by rw [ea7, va_up_ne _ _ (by decide)]; exact hA6
  have hE15 : E15 23 = .inr (6, [.int 0, .ref (ad1 24), .int 15, .int 3000, .int 0, .ref (ad2 25), .ref (ad3 26), .int 0, .ref (ad4 27), .int 0, .ref (ad5 28), .ref (ad6 29), .null, .int 0, .null, .null, .int 0, .null, .null, .null]) := by rw [ee15, va_up_ne _ _ (by decide)]; exact hE14
  refine y_putF (v := .ref (ad7 30)) (C := RX6) (T := TX6) (N := 20) hx hb hts inX6_init_X6 tyX6 tyX6_ok nmX6 hown hK hw (yap (yap (yap (yap (yap (yap (yap hp))))))) hA7 hE15 rfl 12 (by decide) (hts (.fieldLink RX6 37 "SixNumbersModel" "rights" "[I") (List.mem_of_getElem? (i := 15) rfl)) (fun _ h9 => h9) rfl hin rfl (ty := (.array .int)) (by decide +kernel) rfl rfl (Nat.le_of_ble_eq_true rfl) dX6_init_72 (fun E16 H locs ee16 hw => ?_)
  have hE16 : E16 23 = .inr (6, [.int 0, .ref (ad1 24), .int 15, .int 3000, .int 0, .ref (ad2 25), .ref (ad3 26), .int 0, .ref (ad4 27), .int 0, .ref (ad5 28), .ref (ad6 29), .ref (ad7 30), .int 0, .null, .null, .int 0, .null, .null, .null]) := by rw [ee16, va_up_self]; rfl
  refine lv_aload_n hx hb dX6_init_75 rfl (lv_at hl 0 rfl) ?_
  refine lv_bipush (v := 40) hx hb dX6_init_76 (by decide) ?_
  refine y_newa (atype := .int) hx hb (hts (.arrayClass .int) (List.mem_of_getElem? (i := 4) rfl)) rfl hK hw 31 (y_nm (y_nm (y_nm (y_nm (y_nm (y_nm (y_nm (hS 31 (by omega)) (by decide)) (by decide)) (by decide)) (by decide)) (by decide)) (by decide)) (by decide)) 0 rfl (fun cA h1 h2 => Option.some.inj (h1.symm.trans h2)) (N' := 40) (a0 := (40, .inl (fun _ => 0))) (fun cA => rfl) (by decide) (by decide) (Nat.le_of_ble_eq_true rfl) (Nat.le_of_ble_eq_true rfl) (Nat.le_of_ble_eq_true rfl) dX6_init_78 (fun q8 ad8 E17 H ea8 ee17 hw => ?_)
  refine W.widen (k := 8) (n := 198228) (Nat.le_of_ble_eq_true rfl) (Nat.le_of_ble_eq_true rfl) ?_
  have hA8 : ad8 23 = ad 23 := by rw [ea8, va_up_ne _ _ (by decide)]; exact hA7
  have hE17 : E17 23 = .inr (6, [.int 0, .ref (ad1 24), .int 15, .int 3000, .int 0, .ref (ad2 25), .ref (ad3 26), .int 0, .ref (ad4 27), .int 0, .ref (ad5 28), .ref (ad6 29), .ref (ad7 30), .int 0, .null, .null, .int 0, .null, .null, .null]) := by rw [ee17, va_up_ne _ _ (by decide)]; exact hE16
  refine y_putF (v := .ref (ad8 31)) (C := RX6) (T := TX6) (N := 20) hx hb hts inX6_init_X6 tyX6 tyX6_ok nmX6 hown hK hw (yap (yap (yap (yap (yap (yap (yap (yap hp)))))))) hA8 hE17 rfl 14 (by decide) (hts (.fieldLink RX6 40 "SixNumbersModel" "todoSet" "[I") (List.mem_of_getElem? (i := 16) rfl)) (fun _ h9 => h9) rfl hin rfl (ty := (.array .int)) (by decide +kernel) rfl rfl (Nat.le_of_ble_eq_true rfl) dX6_init_80 (fun E18 H locs ee18 hw => ?_)
  have hE18 : E18 23 = .inr (6, [.int 0, .ref (ad1 24), .int 15, .int 3000, .int 0, .ref (ad2 25), .ref (ad3 26), .int 0, .ref (ad4 27), .int 0, .ref (ad5 28), .ref (ad6 29), .ref (ad7 30), .int 0, .ref (ad8 31), .null, .int 0, .null, .null, .null]) := by rw [ee18, va_up_self]; rfl
  refine lv_aload_n hx hb dX6_init_83 rfl (lv_at hl 0 rfl) ?_
  refine lv_bipush (v := 40) hx hb dX6_init_84 (by decide) ?_
  refine y_newa (atype := .int) hx hb (hts (.arrayClass .int) (List.mem_of_getElem? (i := 4) rfl)) rfl hK hw 32 (y_nm (y_nm (y_nm (y_nm (y_nm (y_nm (y_nm (y_nm (hS 32 (by omega)) (by decide)) (by decide)) (by decide)) (by decide)) (by decide)) (by decide)) (by decide)) (by decide)) 0 rfl (fun cA h1 h2 => Option.some.inj (h1.symm.trans h2)) (N' := 40) (a0 := (40, .inl (fun _ => 0))) (fun cA => rfl) (by decide) (by decide) (Nat.le_of_ble_eq_true rfl) (Nat.le_of_ble_eq_true rfl) (Nat.le_of_ble_eq_true rfl) dX6_init_86 (fun q9 ad9 E19 H ea9 ee19 hw => ?_)
  refine W.widen (k := 9) (n := 198268) (Nat.le_of_ble_eq_true rfl) (Nat.le_of_ble_eq_true rfl) ?_
  have hA9 : ad9 23 = ad 23 := by rw [ea9, va_up_ne _ _ (by decide)]; exact hA8
  have hE19 : E19 23 = .inr (6, [.int 0, .ref (ad1 24), .int 15, .int 3000, .int 0, .ref (ad2 25), .ref (ad3 26), .int 0, .ref (ad4 27), .int 0, .ref (ad5 28), .ref (ad6 29), .ref (ad7 30), .int 0, .ref (ad8 31), .null, .int 0, .null, .null, .null]) := by rw [ee19, va_up_ne _ _ (by decide)]; exact hE18
  refine y_putF (v := .ref (ad9 32)) (C := RX6) (T := TX6) (N := 20) hx hb hts inX6_init_X6 tyX6 tyX6_ok nmX6 hown hK hw (yap (yap (yap (yap (yap (yap (yap (yap (yap hp))))))))) hA9 hE19 rfl 15 (by decide) (hts (.fieldLink RX6 43 "SixNumbersModel" "todoValue" "[I") (List.mem_of_getElem? (i := 17) rfl)) (fun _ h9 => h9) rfl hin rfl (ty := (.array .int)) (by decide +kernel) rfl rfl (Nat.le_of_ble_eq_true rfl) dX6_init_88 (fun E20 H locs ee20 hw => ?_)
  have hE20 : E20 23 = .inr (6, [.int 0, .ref (ad1 24), .int 15, .int 3000, .int 0, .ref (ad2 25), .ref (ad3 26), .int 0, .ref (ad4 27), .int 0, .ref (ad5 28), .ref (ad6 29), .ref (ad7 30), .int 0, .ref (ad8 31), .ref (ad9 32), .int 0, .null, .null, .null]) := by rw [ee20, va_up_self]; rfl
  refine lv_aload_n hx hb dX6_init_91 rfl (lv_at hl 0 rfl) ?_
  refine lv_bipush (v := 101) hx hb dX6_init_92 (by decide) ?_
  refine y_newa (atype := .int) hx hb (hts (.arrayClass .int) (List.mem_of_getElem? (i := 4) rfl)) rfl hK hw 33 (y_nm (y_nm (y_nm (y_nm (y_nm (y_nm (y_nm (y_nm (y_nm (hS 33 (by omega)) (by decide)) (by decide)) (by decide)) (by decide)) (by decide)) (by decide)) (by decide)) (by decide)) (by decide)) 0 rfl (fun cA h1 h2 => Option.some.inj (h1.symm.trans h2)) (N' := 101) (a0 := (101, .inl (fun _ => 0))) (fun cA => rfl) (by decide) (by decide) (Nat.le_of_ble_eq_true rfl) (Nat.le_of_ble_eq_true rfl) (Nat.le_of_ble_eq_true rfl) dX6_init_94 (fun q10 ad10 E21 H ea10 ee21 hw => ?_)
  refine W.widen (k := 10) (n := 198369) (Nat.le_of_ble_eq_true rfl) (Nat.le_of_ble_eq_true rfl) ?_
  have hA10 : ad10 23 = ad 23 := by rw [ea10, va_up_ne _ _ (by decide)]; exact hA9
  have hE21 : E21 23 = .inr (6, [.int 0, .ref (ad1 24), .int 15, .int 3000, .int 0, .ref (ad2 25), .ref (ad3 26), .int 0, .ref (ad4 27), .int 0, .ref (ad5 28), .ref (ad6 29), .ref (ad7 30), .int 0, .ref (ad8 31), .ref (ad9 32), .int 0, .null, .null, .null]) := by rw [ee21, va_up_ne _ _ (by decide)]; exact hE20
  refine y_putF (v := .ref (ad10 33)) (C := RX6) (T := TX6) (N := 20) hx hb hts inX6_init_X6 tyX6 tyX6_ok nmX6 hown hK hw (yap (yap (yap (yap (yap (yap (yap (yap (yap (yap hp)))))))))) hA10 hE21 rfl 17 (by decide) (hts (.fieldLink RX6 46 "SixNumbersModel" "counts" "[I") (List.mem_of_getElem? (i := 18) rfl)) (fun _ h9 => h9) rfl hin rfl (ty := (.array .int)) (by decide +kernel) rfl rfl (Nat.le_of_ble_eq_true rfl) dX6_init_96 (fun E22 H locs ee22 hw => ?_)
  have hE22 : E22 23 = .inr (6, [.int 0, .ref (ad1 24), .int 15, .int 3000, .int 0, .ref (ad2 25), .ref (ad3 26), .int 0, .ref (ad4 27), .int 0, .ref (ad5 28), .ref (ad6 29), .ref (ad7 30), .int 0, .ref (ad8 31), .ref (ad9 32), .int 0, .ref (ad10 33), .null, .null]) := by rw [ee22, va_up_self]; rfl
  refine lv_aload_n hx hb dX6_init_99 rfl (lv_at hl 0 rfl) ?_
  refine lv_sipush (v := 5041) hx hb dX6_init_100 (by decide) ?_
  refine y_newa (atype := .int) hx hb (hts (.arrayClass .int) (List.mem_of_getElem? (i := 4) rfl)) rfl hK hw 34 (y_nm (y_nm (y_nm (y_nm (y_nm (y_nm (y_nm (y_nm (y_nm (y_nm (hS 34 (by omega)) (by decide)) (by decide)) (by decide)) (by decide)) (by decide)) (by decide)) (by decide)) (by decide)) (by decide)) (by decide)) 0 rfl (fun cA h1 h2 => Option.some.inj (h1.symm.trans h2)) (N' := 5041) (a0 := (5041, .inl (fun _ => 0))) (fun cA => rfl) (by decide) (by decide) (Nat.le_of_ble_eq_true rfl) (Nat.le_of_ble_eq_true rfl) (Nat.le_of_ble_eq_true rfl) dX6_init_103 (fun q11 ad11 E23 H ea11 ee23 hw => ?_)
  refine W.widen (k := 11) (n := 203410) (Nat.le_of_ble_eq_true rfl) (Nat.le_of_ble_eq_true rfl) ?_
  have hA11 : ad11 23 = ad 23 := by rw [ea11, va_up_ne _ _ (by decide)]; exact hA10
  have hE23 : E23 23 = .inr (6, [.int 0, .ref (ad1 24), .int 15, .int 3000, .int 0, .ref (ad2 25), .ref (ad3 26), .int 0, .ref (ad4 27), .int 0, .ref (ad5 28), .ref (ad6 29), .ref (ad7 30), .int 0, .ref (ad8 31), .ref (ad9 32), .int 0, .ref (ad10 33), .null, .null]) := by rw [ee23, va_up_ne _ _ (by decide)]; exact hE22
  refine y_putF (v := .ref (ad11 34)) (C := RX6) (T := TX6) (N := 20) hx hb hts inX6_init_X6 tyX6 tyX6_ok nmX6 hown hK hw (yap (yap (yap (yap (yap (yap (yap (yap (yap (yap (yap hp))))))))))) hA11 hE23 rfl 18 (by decide) (hts (.fieldLink RX6 49 "SixNumbersModel" "far" "[I") (List.mem_of_getElem? (i := 19) rfl)) (fun _ h9 => h9) rfl hin rfl (ty := (.array .int)) (by decide +kernel) rfl rfl (Nat.le_of_ble_eq_true rfl) dX6_init_105 (fun E24 H locs ee24 hw => ?_)
  have hE24 : E24 23 = .inr (6, [.int 0, .ref (ad1 24), .int 15, .int 3000, .int 0, .ref (ad2 25), .ref (ad3 26), .int 0, .ref (ad4 27), .int 0, .ref (ad5 28), .ref (ad6 29), .ref (ad7 30), .int 0, .ref (ad8 31), .ref (ad9 32), .int 0, .ref (ad10 33), .ref (ad11 34), .null]) := by rw [ee24, va_up_self]; rfl
  refine lv_aload_n hx hb dX6_init_108 rfl (lv_at hl 0 rfl) ?_
  refine lv_sipush (v := 5041) hx hb dX6_init_109 (by decide) ?_
  refine y_newa (atype := .int) hx hb (hts (.arrayClass .int) (List.mem_of_getElem? (i := 4) rfl)) rfl hK hw 35 (y_nm (y_nm (y_nm (y_nm (y_nm (y_nm (y_nm (y_nm (y_nm (y_nm (y_nm (hS 35 (by omega)) (by decide)) (by decide)) (by decide)) (by decide)) (by decide)) (by decide)) (by decide)) (by decide)) (by decide)) (by decide)) (by decide)) 0 rfl (fun cA h1 h2 => Option.some.inj (h1.symm.trans h2)) (N' := 5041) (a0 := (5041, .inl (fun _ => 0))) (fun cA => rfl) (by decide) (by decide) (Nat.le_of_ble_eq_true rfl) (Nat.le_of_ble_eq_true rfl) (Nat.le_of_ble_eq_true rfl) dX6_init_112 (fun q12 ad12 E25 H ea12 ee25 hw => ?_)
  refine W.widen (k := 12) (n := 208451) (Nat.le_of_ble_eq_true rfl) (Nat.le_of_ble_eq_true rfl) ?_
  have hA12 : ad12 23 = ad 23 := by rw [ea12, va_up_ne _ _ (by decide)]; exact hA11
  have hE25 : E25 23 = .inr (6, [.int 0, .ref (ad1 24), .int 15, .int 3000, .int 0, .ref (ad2 25), .ref (ad3 26), .int 0, .ref (ad4 27), .int 0, .ref (ad5 28), .ref (ad6 29), .ref (ad7 30), .int 0, .ref (ad8 31), .ref (ad9 32), .int 0, .ref (ad10 33), .ref (ad11 34), .null]) := by rw [ee25, va_up_ne _ _ (by decide)]; exact hE24
  refine y_putF (v := .ref (ad12 35)) (C := RX6) (T := TX6) (N := 20) hx hb hts inX6_init_X6 tyX6 tyX6_ok nmX6 hown hK hw (yap (yap (yap (yap (yap (yap (yap (yap (yap (yap (yap (yap hp)))))))))))) hA12 hE25 rfl 19 (by decide) (hts (.fieldLink RX6 52 "SixNumbersModel" "line" "[I") (List.mem_of_getElem? (i := 20) rfl)) (fun _ h9 => h9) rfl hin rfl (ty := (.array .int)) (by decide +kernel) rfl rfl (Nat.le_of_ble_eq_true rfl) dX6_init_114 (fun E26 H locs ee26 hw => ?_)
  have hE26 : E26 23 = .inr (6, [.int 0, .ref (ad1 24), .int 15, .int 3000, .int 0, .ref (ad2 25), .ref (ad3 26), .int 0, .ref (ad4 27), .int 0, .ref (ad5 28), .ref (ad6 29), .ref (ad7 30), .int 0, .ref (ad8 31), .ref (ad9 32), .int 0, .ref (ad10 33), .ref (ad11 34), .ref (ad12 35)]) := by rw [ee26, va_up_self]; rfl
  refine y_vret hx hb hr hlocks hK hw ?_ dX6_init_117
  subst ea1 ee1 ee2 ee3 ee4 ea2 ee5 ee6 ea3 ee7 ee8 ea4 ee9 ee10 ea5 ee11 ee12 ea6 ee13 ee14 ea7 ee15 ee16 ea8 ee17 ee18 ea9 ee19 ee20 ea10 ee21 ee22 ea11 ee23 ee24 ea12 ee25 ee26
  refine ⟨fun k hk => ?_, fun k hk hk0 => ?_, fun k hk => ?_⟩
  · dsimp only
    rw [va_up_ne _ _ (show k ≠ 35 by omega)]
    rw [va_up_ne _ _ (show k ≠ 34 by omega)]
    rw [va_up_ne _ _ (show k ≠ 33 by omega)]
    rw [va_up_ne _ _ (show k ≠ 32 by omega)]
    rw [va_up_ne _ _ (show k ≠ 31 by omega)]
    rw [va_up_ne _ _ (show k ≠ 30 by omega)]
    rw [va_up_ne _ _ (show k ≠ 29 by omega)]
    rw [va_up_ne _ _ (show k ≠ 28 by omega)]
    rw [va_up_ne _ _ (show k ≠ 27 by omega)]
    rw [va_up_ne _ _ (show k ≠ 26 by omega)]
    rw [va_up_ne _ _ (show k ≠ 25 by omega)]
    rw [va_up_ne _ _ (show k ≠ 24 by omega)]
  · dsimp only
    rw [va_up_ne _ _ (show k ≠ 23 by omega)]
    rw [va_up_ne _ _ (show k ≠ 35 by omega)]
    rw [va_up_ne _ _ (show k ≠ 23 by omega)]
    rw [va_up_ne _ _ (show k ≠ 34 by omega)]
    rw [va_up_ne _ _ (show k ≠ 23 by omega)]
    rw [va_up_ne _ _ (show k ≠ 33 by omega)]
    rw [va_up_ne _ _ (show k ≠ 23 by omega)]
    rw [va_up_ne _ _ (show k ≠ 32 by omega)]
    rw [va_up_ne _ _ (show k ≠ 23 by omega)]
    rw [va_up_ne _ _ (show k ≠ 31 by omega)]
    rw [va_up_ne _ _ (show k ≠ 23 by omega)]
    rw [va_up_ne _ _ (show k ≠ 30 by omega)]
    rw [va_up_ne _ _ (show k ≠ 23 by omega)]
    rw [va_up_ne _ _ (show k ≠ 29 by omega)]
    rw [va_up_ne _ _ (show k ≠ 23 by omega)]
    rw [va_up_ne _ _ (show k ≠ 28 by omega)]
    rw [va_up_ne _ _ (show k ≠ 23 by omega)]
    rw [va_up_ne _ _ (show k ≠ 27 by omega)]
    rw [va_up_ne _ _ (show k ≠ 23 by omega)]
    rw [va_up_ne _ _ (show k ≠ 26 by omega)]
    rw [va_up_ne _ _ (show k ≠ 23 by omega)]
    rw [va_up_ne _ _ (show k ≠ 25 by omega)]
    rw [va_up_ne _ _ (show k ≠ 23 by omega)]
    rw [va_up_ne _ _ (show k ≠ 23 by omega)]
    rw [va_up_ne _ _ (show k ≠ 23 by omega)]
    rw [va_up_ne _ _ (show k ≠ 24 by omega)]
  · rcases hk with hk | hk | hk | hk | hk | hk | hk | hk | hk | hk | hk | hk | hk
    · subst hk
      dsimp only
      rw [va_up_self]
      rfl
    · subst hk
      dsimp only
      rw [va_up_ne _ _ (show 24 ≠ 23 by decide)]
      rw [va_up_ne _ _ (show 24 ≠ 35 by decide)]
      rw [va_up_ne _ _ (show 24 ≠ 23 by decide)]
      rw [va_up_ne _ _ (show 24 ≠ 34 by decide)]
      rw [va_up_ne _ _ (show 24 ≠ 23 by decide)]
      rw [va_up_ne _ _ (show 24 ≠ 33 by decide)]
      rw [va_up_ne _ _ (show 24 ≠ 23 by decide)]
      rw [va_up_ne _ _ (show 24 ≠ 32 by decide)]
      rw [va_up_ne _ _ (show 24 ≠ 23 by decide)]
      rw [va_up_ne _ _ (show 24 ≠ 31 by decide)]
      rw [va_up_ne _ _ (show 24 ≠ 23 by decide)]
      rw [va_up_ne _ _ (show 24 ≠ 30 by decide)]
      rw [va_up_ne _ _ (show 24 ≠ 23 by decide)]
      rw [va_up_ne _ _ (show 24 ≠ 29 by decide)]
      rw [va_up_ne _ _ (show 24 ≠ 23 by decide)]
      rw [va_up_ne _ _ (show 24 ≠ 28 by decide)]
      rw [va_up_ne _ _ (show 24 ≠ 23 by decide)]
      rw [va_up_ne _ _ (show 24 ≠ 27 by decide)]
      rw [va_up_ne _ _ (show 24 ≠ 23 by decide)]
      rw [va_up_ne _ _ (show 24 ≠ 26 by decide)]
      rw [va_up_ne _ _ (show 24 ≠ 23 by decide)]
      rw [va_up_ne _ _ (show 24 ≠ 25 by decide)]
      rw [va_up_ne _ _ (show 24 ≠ 23 by decide)]
      rw [va_up_ne _ _ (show 24 ≠ 23 by decide)]
      rw [va_up_ne _ _ (show 24 ≠ 23 by decide)]
      rw [va_up_self]
      rfl
    · subst hk
      dsimp only
      rw [va_up_ne _ _ (show 25 ≠ 23 by decide)]
      rw [va_up_ne _ _ (show 25 ≠ 35 by decide)]
      rw [va_up_ne _ _ (show 25 ≠ 23 by decide)]
      rw [va_up_ne _ _ (show 25 ≠ 34 by decide)]
      rw [va_up_ne _ _ (show 25 ≠ 23 by decide)]
      rw [va_up_ne _ _ (show 25 ≠ 33 by decide)]
      rw [va_up_ne _ _ (show 25 ≠ 23 by decide)]
      rw [va_up_ne _ _ (show 25 ≠ 32 by decide)]
      rw [va_up_ne _ _ (show 25 ≠ 23 by decide)]
      rw [va_up_ne _ _ (show 25 ≠ 31 by decide)]
      rw [va_up_ne _ _ (show 25 ≠ 23 by decide)]
      rw [va_up_ne _ _ (show 25 ≠ 30 by decide)]
      rw [va_up_ne _ _ (show 25 ≠ 23 by decide)]
      rw [va_up_ne _ _ (show 25 ≠ 29 by decide)]
      rw [va_up_ne _ _ (show 25 ≠ 23 by decide)]
      rw [va_up_ne _ _ (show 25 ≠ 28 by decide)]
      rw [va_up_ne _ _ (show 25 ≠ 23 by decide)]
      rw [va_up_ne _ _ (show 25 ≠ 27 by decide)]
      rw [va_up_ne _ _ (show 25 ≠ 23 by decide)]
      rw [va_up_ne _ _ (show 25 ≠ 26 by decide)]
      rw [va_up_ne _ _ (show 25 ≠ 23 by decide)]
      rw [va_up_self]
      rfl
    · subst hk
      dsimp only
      rw [va_up_ne _ _ (show 26 ≠ 23 by decide)]
      rw [va_up_ne _ _ (show 26 ≠ 35 by decide)]
      rw [va_up_ne _ _ (show 26 ≠ 23 by decide)]
      rw [va_up_ne _ _ (show 26 ≠ 34 by decide)]
      rw [va_up_ne _ _ (show 26 ≠ 23 by decide)]
      rw [va_up_ne _ _ (show 26 ≠ 33 by decide)]
      rw [va_up_ne _ _ (show 26 ≠ 23 by decide)]
      rw [va_up_ne _ _ (show 26 ≠ 32 by decide)]
      rw [va_up_ne _ _ (show 26 ≠ 23 by decide)]
      rw [va_up_ne _ _ (show 26 ≠ 31 by decide)]
      rw [va_up_ne _ _ (show 26 ≠ 23 by decide)]
      rw [va_up_ne _ _ (show 26 ≠ 30 by decide)]
      rw [va_up_ne _ _ (show 26 ≠ 23 by decide)]
      rw [va_up_ne _ _ (show 26 ≠ 29 by decide)]
      rw [va_up_ne _ _ (show 26 ≠ 23 by decide)]
      rw [va_up_ne _ _ (show 26 ≠ 28 by decide)]
      rw [va_up_ne _ _ (show 26 ≠ 23 by decide)]
      rw [va_up_ne _ _ (show 26 ≠ 27 by decide)]
      rw [va_up_ne _ _ (show 26 ≠ 23 by decide)]
      rw [va_up_self]
      rfl
    · subst hk
      dsimp only
      rw [va_up_ne _ _ (show 27 ≠ 23 by decide)]
      rw [va_up_ne _ _ (show 27 ≠ 35 by decide)]
      rw [va_up_ne _ _ (show 27 ≠ 23 by decide)]
      rw [va_up_ne _ _ (show 27 ≠ 34 by decide)]
      rw [va_up_ne _ _ (show 27 ≠ 23 by decide)]
      rw [va_up_ne _ _ (show 27 ≠ 33 by decide)]
      rw [va_up_ne _ _ (show 27 ≠ 23 by decide)]
      rw [va_up_ne _ _ (show 27 ≠ 32 by decide)]
      rw [va_up_ne _ _ (show 27 ≠ 23 by decide)]
      rw [va_up_ne _ _ (show 27 ≠ 31 by decide)]
      rw [va_up_ne _ _ (show 27 ≠ 23 by decide)]
      rw [va_up_ne _ _ (show 27 ≠ 30 by decide)]
      rw [va_up_ne _ _ (show 27 ≠ 23 by decide)]
      rw [va_up_ne _ _ (show 27 ≠ 29 by decide)]
      rw [va_up_ne _ _ (show 27 ≠ 23 by decide)]
      rw [va_up_ne _ _ (show 27 ≠ 28 by decide)]
      rw [va_up_ne _ _ (show 27 ≠ 23 by decide)]
      rw [va_up_self]
      rfl
    · subst hk
      dsimp only
      rw [va_up_ne _ _ (show 28 ≠ 23 by decide)]
      rw [va_up_ne _ _ (show 28 ≠ 35 by decide)]
      rw [va_up_ne _ _ (show 28 ≠ 23 by decide)]
      rw [va_up_ne _ _ (show 28 ≠ 34 by decide)]
      rw [va_up_ne _ _ (show 28 ≠ 23 by decide)]
      rw [va_up_ne _ _ (show 28 ≠ 33 by decide)]
      rw [va_up_ne _ _ (show 28 ≠ 23 by decide)]
      rw [va_up_ne _ _ (show 28 ≠ 32 by decide)]
      rw [va_up_ne _ _ (show 28 ≠ 23 by decide)]
      rw [va_up_ne _ _ (show 28 ≠ 31 by decide)]
      rw [va_up_ne _ _ (show 28 ≠ 23 by decide)]
      rw [va_up_ne _ _ (show 28 ≠ 30 by decide)]
      rw [va_up_ne _ _ (show 28 ≠ 23 by decide)]
      rw [va_up_ne _ _ (show 28 ≠ 29 by decide)]
      rw [va_up_ne _ _ (show 28 ≠ 23 by decide)]
      rw [va_up_self]
      rfl
    · subst hk
      dsimp only
      rw [va_up_ne _ _ (show 29 ≠ 23 by decide)]
      rw [va_up_ne _ _ (show 29 ≠ 35 by decide)]
      rw [va_up_ne _ _ (show 29 ≠ 23 by decide)]
      rw [va_up_ne _ _ (show 29 ≠ 34 by decide)]
      rw [va_up_ne _ _ (show 29 ≠ 23 by decide)]
      rw [va_up_ne _ _ (show 29 ≠ 33 by decide)]
      rw [va_up_ne _ _ (show 29 ≠ 23 by decide)]
      rw [va_up_ne _ _ (show 29 ≠ 32 by decide)]
      rw [va_up_ne _ _ (show 29 ≠ 23 by decide)]
      rw [va_up_ne _ _ (show 29 ≠ 31 by decide)]
      rw [va_up_ne _ _ (show 29 ≠ 23 by decide)]
      rw [va_up_ne _ _ (show 29 ≠ 30 by decide)]
      rw [va_up_ne _ _ (show 29 ≠ 23 by decide)]
      rw [va_up_self]
      rfl
    · subst hk
      dsimp only
      rw [va_up_ne _ _ (show 30 ≠ 23 by decide)]
      rw [va_up_ne _ _ (show 30 ≠ 35 by decide)]
      rw [va_up_ne _ _ (show 30 ≠ 23 by decide)]
      rw [va_up_ne _ _ (show 30 ≠ 34 by decide)]
      rw [va_up_ne _ _ (show 30 ≠ 23 by decide)]
      rw [va_up_ne _ _ (show 30 ≠ 33 by decide)]
      rw [va_up_ne _ _ (show 30 ≠ 23 by decide)]
      rw [va_up_ne _ _ (show 30 ≠ 32 by decide)]
      rw [va_up_ne _ _ (show 30 ≠ 23 by decide)]
      rw [va_up_ne _ _ (show 30 ≠ 31 by decide)]
      rw [va_up_ne _ _ (show 30 ≠ 23 by decide)]
      rw [va_up_self]
      rfl
    · subst hk
      dsimp only
      rw [va_up_ne _ _ (show 31 ≠ 23 by decide)]
      rw [va_up_ne _ _ (show 31 ≠ 35 by decide)]
      rw [va_up_ne _ _ (show 31 ≠ 23 by decide)]
      rw [va_up_ne _ _ (show 31 ≠ 34 by decide)]
      rw [va_up_ne _ _ (show 31 ≠ 23 by decide)]
      rw [va_up_ne _ _ (show 31 ≠ 33 by decide)]
      rw [va_up_ne _ _ (show 31 ≠ 23 by decide)]
      rw [va_up_ne _ _ (show 31 ≠ 32 by decide)]
      rw [va_up_ne _ _ (show 31 ≠ 23 by decide)]
      rw [va_up_self]
      rfl
    · subst hk
      dsimp only
      rw [va_up_ne _ _ (show 32 ≠ 23 by decide)]
      rw [va_up_ne _ _ (show 32 ≠ 35 by decide)]
      rw [va_up_ne _ _ (show 32 ≠ 23 by decide)]
      rw [va_up_ne _ _ (show 32 ≠ 34 by decide)]
      rw [va_up_ne _ _ (show 32 ≠ 23 by decide)]
      rw [va_up_ne _ _ (show 32 ≠ 33 by decide)]
      rw [va_up_ne _ _ (show 32 ≠ 23 by decide)]
      rw [va_up_self]
      rfl
    · subst hk
      dsimp only
      rw [va_up_ne _ _ (show 33 ≠ 23 by decide)]
      rw [va_up_ne _ _ (show 33 ≠ 35 by decide)]
      rw [va_up_ne _ _ (show 33 ≠ 23 by decide)]
      rw [va_up_ne _ _ (show 33 ≠ 34 by decide)]
      rw [va_up_ne _ _ (show 33 ≠ 23 by decide)]
      rw [va_up_self]
      rfl
    · subst hk
      dsimp only
      rw [va_up_ne _ _ (show 34 ≠ 23 by decide)]
      rw [va_up_ne _ _ (show 34 ≠ 35 by decide)]
      rw [va_up_ne _ _ (show 34 ≠ 23 by decide)]
      rw [va_up_self]
      rfl
    · subst hk
      dsimp only
      rw [va_up_ne _ _ (show 35 ≠ 23 by decide)]
      rw [va_up_self]
      rfl
