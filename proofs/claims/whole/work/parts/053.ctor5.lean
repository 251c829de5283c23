abbrev rX5_init : Room := { frames := 2, cells := 187, slots := 511502, locals := 40 }
theorem inX5_init_X0 : ∀ w ∈ wsX00, w ∈ wsX5_init := fun w h => List.mem_cons_of_mem _ (List.mem_append_left _ (List.mem_append_left _ (List.mem_append_right _ h)))
theorem inX5_init_X1 : ∀ w ∈ wsX10, w ∈ wsX5_init := fun w h => List.mem_cons_of_mem _ (List.mem_append_left _ (List.mem_append_left _ (List.mem_append_left _ (List.mem_append_right _ h))))
theorem inX5_init_X2 : ∀ w ∈ wsX20, w ∈ wsX5_init := fun w h => List.mem_cons_of_mem _ (List.mem_append_left _ (List.mem_append_right _ h))
theorem inX5_init_X3 : ∀ w ∈ wsX30, w ∈ wsX5_init := fun w h => List.mem_cons_of_mem _ (List.mem_append_left _ (List.mem_append_left _ (List.mem_append_left _ (List.mem_append_left _ (List.mem_append_left _ (List.mem_append_right _ h))))))
theorem inX5_init_X4 : ∀ w ∈ wsX40, w ∈ wsX5_init := fun w h => List.mem_cons_of_mem _ (List.mem_append_right _ h)
theorem inX5_init_X5 : ∀ w ∈ wsX50, w ∈ wsX5_init := fun w h => List.mem_cons_of_mem _ (List.mem_append_left _ (List.mem_append_left _ (List.mem_append_left _ (List.mem_append_left _ (List.mem_append_right _ h)))))
set_option maxHeartbeats 2000000 in
set_option maxRecDepth 100000 in
theorem c_X5_init {l : Launch} {D : va_G} {cT : Nat → ClassId} {b : Nat} {S : List Nat} {ad : Nat → Nat} {E : Nat → va_E} {p0 : Nat} (hp : S[p0]? = some 0) (hS : ∀ k, (1 ≤ k ∧ k < 23) ∨ (36 ≤ k ∧ k < 201) → k ∉ S) (hE : E 0 = .inr (5, [.null, .null, .null, .null, .null, .null])) : Met l yX5_init wsX5_init rX5_init (va_Pc [.ref (ad 0)] (yPre D cT b S ad E)) (yQ D cT b ((((((((((((((((((((((((((((((((S ++ [1])) ++ [2]) ++ [3]) ++ [4]) ++ yrg 36 64) ++ [5]) ++ yrg 100 64) ++ [6]) ++ [7])) ++ [8]) ++ [9]) ++ [10]) ++ yrg 164 16) ++ [11]) ++ yrg 180 16) ++ [12]) ++ [13])) ++ [14]) ++ [15]) ++ [16]) ++ yrg 196 5) ++ [17])) ++ [18]) ++ [19])) ++ [20]) ++ [21]) ++ [22]) (fun u => (∀ k, ¬ ((1 ≤ k ∧ k < 23) ∨ (36 ≤ k ∧ k < 201)) → u.1 k = ad k) ∧ (∀ k, ¬ ((1 ≤ k ∧ k < 23) ∨ (36 ≤ k ∧ k < 201)) → k ≠ 0 → u.2 k = E k) ∧ ∀ k, (k = 0 ∨ (1 ≤ k ∧ k < 23) ∨ (36 ≤ k ∧ k < 201)) → u.2 k = xF cT u.1 (xA0 k) (xL0 k) k)) 187 511502 (yA b) := by
  refine y_met RX5 rfl (by decide) rfl (Nat.le_of_ble_eq_true rfl) (fun p e s m below meth c ls hx hb hr hts hown hml hlocks hin hK hw hl => ?_)
  have hl : lv_has ls 1 [(0, .ref (ad 0))] := hl
  refine lv_aload_n hx hb dX5_init_0 rfl (lv_at hl 0 rfl) ?_
  refine W.objInit hx hb hown (hts (.methodLink RX5 1 objectInit) (List.mem_of_getElem? (i := 1) rfl)) (hts (.instanceMethod objectInit) (List.mem_of_getElem? (i := 2) rfl)) (hts (.code objectInit ⟨#[0xb1]⟩ 1 none) (List.mem_of_getElem? (i := 3) rfl)) rfl (by rw [hml]; exact hl.1) rfl dX5_init_1 (Nat.le_of_ble_eq_true rfl) (Nat.le_of_ble_eq_true rfl) ?_
  refine W.eq (g2 := F0 m 4 ls []) rfl ?_
  have hm0 : ∀ k, k < 201 → k ≠ 0 → 0 < xg k → xg k < 7 → k ∉ S := fun k h1 h2 h3 h4 => hS k (hZ0 h1 h2 h4)
  have I0 : yI cT 0 ad E ad E := yI_0
  refine lv_aload_n hx hb dX5_init_4 rfl (lv_at hl 0 rfl) ?_
  refine y_new (ci := 3) (fs := [.int 0, .int 0]) (C := RX3) (T := TX3) (N := 2) hx hb hts inX5_init_X3 tyX3 tyX3_ok hown (hts (.classLink RX5 7 RX3) (List.mem_of_getElem? (i := 4) rfl)) (hts (.instantiable RX3 2) (List.mem_of_getElem? (i := 5) rfl)) (hts (.initialized RX3) (List.mem_of_getElem? (i := 6) rfl)) hK hw 1 (hm0 1 (by decide) (by decide) (by decide) (by decide)) rfl hF1 (Nat.le_of_ble_eq_true rfl) (Nat.le_of_ble_eq_true rfl) dX5_init_5 (fun q1 ad1a E1a H ea1 ee1 hw => ?_)
  refine W.widen (k := 1) (n := 2) (Nat.le_of_ble_eq_true rfl) (Nat.le_of_ble_eq_true rfl) ?_
  have hA1a : ad1a 0 = ad 0 := by rw [ea1, va_up_ne _ _ (by decide)]
  have hE1a : E1a 0 = .inr (5, [.null, .null, .null, .null, .null, .null]) := by rw [ee1, va_up_ne _ _ (by decide)]; exact hE
  obtain ⟨w1, hw1⟩ : ∃ w : Nat, ad1a 1 = w := ⟨_, rfl⟩
  rw [hw1]
  refine lv_dup hx hb dX5_init_8 rfl ?_
  have con1 := (c_X3_init (l := l) (D := D) (cT := cT) (b := b) (ad := ad1a) (E := E1a) (p0 := S.length) (List.getElem?_concat_length ..) (fun k hk => absurd hk (Nat.not_lt_zero k)) (by rw [ee1, va_up_self]))
  rw [hw1] at con1
  refine y_callv hw (va_runIN (As := []) (rest := [.ref w1, .ref (ad 0)]) ⟨hx, hb, hml, hown, hts⟩ con1 ⟨va_cnB 0 hts ggX5_init_X3_init rfl rfl rfl (hK.2.1 _ (List.mem_of_getElem? (i := 8) rfl)) (hts _ (List.mem_of_getElem? (i := 6) rfl)) (by decide +kernel) ⟨Nat.le_of_ble_eq_true rfl, Nat.le_of_ble_eq_true rfl⟩, rfl, (hts _ (List.mem_of_getElem? (i := 25) rfl))⟩ (y_preS hK hw) rfl rfl hl.1 rfl (lv_room (Nat.le_of_ble_eq_true rfl)) dX5_init_9 ⟨Nat.le_of_ble_eq_true rfl, Nat.le_of_ble_eq_true rfl⟩) (fun ad1 E1b H locs hw hpo => ?_)
  refine W.widen (k := 1) (n := 2) (Nat.le_of_ble_eq_true rfl) (Nat.le_of_ble_eq_true rfl) ?_
  obtain ⟨p1_1, p2_1, p3_1⟩ := hpo
  dsimp only at p1_1 p2_1 p3_1
  have hA1b : ad1 0 = ad 0 := (p1_1 0 (by decide)).trans hA1a
  have hE1b : E1b 0 = .inr (5, [.null, .null, .null, .null, .null, .null]) := (p2_1 0 (by decide) (by decide)).trans hE1a
  have v1b_1 : ad1 1 = w1 := (p1_1 1 (by decide)).trans hw1
  refine y_putF (v := .ref w1) (C := RX5) (T := TX5) (N := 6) hx hb hts inX5_init_X5 tyX5 tyX5_ok nmX5 hown hK hw (yap hp) hA1b hE1b rfl 0 (by decide) (hts (.fieldLink RX5 10 "SixNumbers" "rules" "LSixNumbers$Rules;") (List.mem_of_getElem? (i := 7) rfl)) (fun _ h9 => h9) rfl hin rfl (ty := .object "SixNumbers$Rules") (by decide +kernel) rfl rfl (Nat.le_of_ble_eq_true rfl) dX5_init_12 (fun E1 H locs e3_1 hw => ?_)
  have hE1 : E1 0 = .inr (5, [.ref w1, .null, .null, .null, .null, .null]) := by rw [e3_1, va_up_self]; rfl
  obtain ⟨I1, -, -⟩ := y_step (g := 1) (t0 := 1) (newp := fun k => k < 0) (by decide) hW1 (by decide) I0 ea1 ee1 p1_1 p2_1 p3_1 e3_1
  have hp1 : (S ++ [1])[p0]? = some 0 := (yap hp)
  have hm1 : ∀ k, k < 201 → k ≠ 0 → 1 < xg k → xg k < 7 → k ∉ (S ++ [1]) := fun k h1 h2 h3 h4 => (y_na2 (hm0 k h1 h2 (by omega) h4) h3 (by decide))
  obtain ⟨S1, hS1⟩ : ∃ T, (S ++ [1]) = T := ⟨_, rfl⟩
  rw [hS1] at hw hp1 hm1
  refine lv_aload_n hx hb dX5_init_15 rfl (lv_at hl 0 rfl) ?_
  refine y_new (ci := 1) (fs := [.null, .null, .null, .null, .null, .null, .int 0, .int 0]) (C := RX1) (T := TX1) (N := 8) hx hb hts inX5_init_X1 tyX1 tyX1_ok hown (hts (.classLink RX5 16 RX1) (List.mem_of_getElem? (i := 8) rfl)) (hts (.instantiable RX1 8) (List.mem_of_getElem? (i := 9) rfl)) (hts (.initialized RX1) (List.mem_of_getElem? (i := 10) rfl)) hK hw 2 (hm1 2 (by decide) (by decide) (by decide) (by decide)) rfl hF2 (Nat.le_of_ble_eq_true rfl) (Nat.le_of_ble_eq_true rfl) dX5_init_16 (fun q2 ad2a E2a H ea2 ee2 hw => ?_)
  refine W.widen (k := 2) (n := 10) (Nat.le_of_ble_eq_true rfl) (Nat.le_of_ble_eq_true rfl) ?_
  have hA2a : ad2a 0 = ad 0 := by rw [ea2, va_up_ne _ _ (by decide)]; exact hA1b
  have hE2a : E2a 0 = .inr (5, [.ref w1, .null, .null, .null, .null, .null]) := by rw [ee2, va_up_ne _ _ (by decide)]; exact hE1
  have v2a_1 : ad2a 1 = w1 := by rw [ea2, va_up_ne _ _ (by decide)]; exact v1b_1
  obtain ⟨w2, hw2⟩ : ∃ w : Nat, ad2a 2 = w := ⟨_, rfl⟩
  rw [hw2]
  refine lv_dup hx hb dX5_init_19 rfl ?_
  refine lv_aload_n hx hb dX5_init_20 rfl (lv_at hl 0 rfl) ?_
  refine y_get (C := RX5) (T := TX5) (N := 6) hx hb hts inX5_init_X5 hown hK hw (yap hp1) hA2a hE2a rfl 0 (by decide) (hts (.fieldLink RX5 10 "SixNumbers" "rules" "LSixNumbers$Rules;") (List.mem_of_getElem? (i := 7) rfl)) (fun _ h9 => h9) (v := .ref w1) rfl dX5_init_21 ?_
  refine lv_bipush (v := 6) hx hb dX5_init_24 (by decide) ?_
  have con2 := (c_X1_init_0 (l := l) (D := D) (cT := cT) (b := b) (ad := ad2a) (E := E2a) v2a_1 (p0 := S1.length) (List.getElem?_concat_length ..) (fun k hk => y_nm (hm1 k (hV2 k hk).1 (hV2 k hk).2.1 (hV2 k hk).2.2.1 (hV2 k hk).2.2.2) (fun e => by subst e; exact hY2 hk)) (by rw [ee2, va_up_self]))
  rw [hw2] at con2
  refine y_callv hw (va_runI (As := [.ref w1, .int 6]) (rest := [.ref w2, .ref (ad 0)]) ⟨hx, hb, hml, hown, hts⟩ con2 (cwI 2 hts ggX5_init_X1_init rfl rfl rfl (hts _ (List.mem_of_getElem? (i := 10) rfl)) (hts (.methodLink RX5 18 yX1_init) (List.mem_of_getElem? (i := 30) rfl)) (hts _ (List.mem_of_getElem? (i := 31) rfl)) rfl (by decide +kernel) ⟨Nat.le_of_ble_eq_true rfl, Nat.le_of_ble_eq_true rfl⟩) (y_preS hK hw) rfl rfl hl.1 rfl (lv_room (Nat.le_of_ble_eq_true rfl)) dX5_init_26 ⟨Nat.le_of_ble_eq_true rfl, Nat.le_of_ble_eq_true rfl⟩) (fun ad2 E2b H locs hw hpo => ?_)
  refine W.widen (k := 135) (n := 387273) (Nat.le_of_ble_eq_true rfl) (Nat.le_of_ble_eq_true rfl) ?_
  obtain ⟨p1_2, p2_2, p3_2⟩ := hpo
  dsimp only at p1_2 p2_2 p3_2
  have hA2b : ad2 0 = ad 0 := (p1_2 0 (by decide)).trans hA2a
  have hE2b : E2b 0 = .inr (5, [.ref w1, .null, .null, .null, .null, .null]) := (p2_2 0 (by decide) (by decide)).trans hE2a
  have v2b_1 : ad2 1 = w1 := (p1_2 1 (by decide)).trans v2a_1
  have v2b_2 : ad2 2 = w2 := (p1_2 2 (by decide)).trans hw2
  refine y_putF (v := .ref w2) (C := RX5) (T := TX5) (N := 6) hx hb hts inX5_init_X5 tyX5 tyX5_ok nmX5 hown hK hw (yap (yap (yap (yap (yap (yap (yap (yap hp1)))))))) hA2b hE2b rfl 1 (by decide) (hts (.fieldLink RX5 21 "SixNumbers" "heap" "LSixNumbers$Heap;") (List.mem_of_getElem? (i := 11) rfl)) (fun _ h9 => h9) rfl hin rfl (ty := .object "SixNumbers$Heap") (by decide +kernel) rfl rfl (Nat.le_of_ble_eq_true rfl) dX5_init_29 (fun E2 H locs e3_2 hw => ?_)
  have hE2 : E2 0 = .inr (5, [.ref w1, .ref w2, .null, .null, .null, .null]) := by rw [e3_2, va_up_self]; rfl
  obtain ⟨I2, -, -⟩ := y_step (g := 2) (t0 := 2) (newp := fun k => k = 3 ∨ k = 4 ∨ (36 ≤ k ∧ k < 100) ∨ k = 5 ∨ (100 ≤ k ∧ k < 164) ∨ k = 6 ∨ k = 7) (by decide) hW2 (by decide) I1 ea2 ee2 p1_2 p2_2 p3_2 e3_2
  have hp2 : ((((((((S1 ++ [2]) ++ [3]) ++ [4]) ++ yrg 36 64) ++ [5]) ++ yrg 100 64) ++ [6]) ++ [7])[p0]? = some 0 := (yap (yap (yap (yap (yap (yap (yap (yap hp1))))))))
  have hm2 : ∀ k, k < 201 → k ≠ 0 → 2 < xg k → xg k < 7 → k ∉ ((((((((S1 ++ [2]) ++ [3]) ++ [4]) ++ yrg 36 64) ++ [5]) ++ yrg 100 64) ++ [6]) ++ [7]) := fun k h1 h2 h3 h4 => (y_na2 (y_na2 (y_nr2 (y_na2 (y_nr2 (y_na2 (y_na2 (y_na2 (hm1 k h1 h2 (by omega) h4) h3 (by decide)) h3 (by decide)) h3 (by decide)) h3 yl_36) h3 (by decide)) h3 yl_100) h3 (by decide)) h3 (by decide))
  obtain ⟨S2, hS2⟩ : ∃ T, ((((((((S1 ++ [2]) ++ [3]) ++ [4]) ++ yrg 36 64) ++ [5]) ++ yrg 100 64) ++ [6]) ++ [7]) = T := ⟨_, rfl⟩
  rw [hS2] at hw hp2 hm2
  refine lv_aload_n hx hb dX5_init_32 rfl (lv_at hl 0 rfl) ?_
  refine y_new (ci := 1) (fs := [.null, .null, .null, .null, .null, .null, .int 0, .int 0]) (C := RX1) (T := TX1) (N := 8) hx hb hts inX5_init_X1 tyX1 tyX1_ok hown (hts (.classLink RX5 16 RX1) (List.mem_of_getElem? (i := 8) rfl)) (hts (.instantiable RX1 8) (List.mem_of_getElem? (i := 9) rfl)) (hts (.initialized RX1) (List.mem_of_getElem? (i := 10) rfl)) hK hw 8 (hm2 8 (by decide) (by decide) (by decide) (by decide)) rfl hF3 (Nat.le_of_ble_eq_true rfl) (Nat.le_of_ble_eq_true rfl) dX5_init_33 (fun q3 ad3a E3a H ea3 ee3 hw => ?_)
  refine W.widen (k := 136) (n := 387281) (Nat.le_of_ble_eq_true rfl) (Nat.le_of_ble_eq_true rfl) ?_
  have hA3a : ad3a 0 = ad 0 := by rw [ea3, va_up_ne _ _ (by decide)]; exact hA2b
  have hE3a : E3a 0 = .inr (5, [.ref w1, .ref w2, .null, .null, .null, .null]) := by rw [ee3, va_up_ne _ _ (by decide)]; exact hE2
  have v3a_1 : ad3a 1 = w1 := by rw [ea3, va_up_ne _ _ (by decide)]; exact v2b_1
  have v3a_2 : ad3a 2 = w2 := by rw [ea3, va_up_ne _ _ (by decide)]; exact v2b_2
  obtain ⟨w8, hw8⟩ : ∃ w : Nat, ad3a 8 = w := ⟨_, rfl⟩
  rw [hw8]
  refine lv_dup hx hb dX5_init_36 rfl ?_
  refine lv_aload_n hx hb dX5_init_37 rfl (lv_at hl 0 rfl) ?_
  refine y_get (C := RX5) (T := TX5) (N := 6) hx hb hts inX5_init_X5 hown hK hw (yap hp2) hA3a hE3a rfl 0 (by decide) (hts (.fieldLink RX5 10 "SixNumbers" "rules" "LSixNumbers$Rules;") (List.mem_of_getElem? (i := 7) rfl)) (fun _ h9 => h9) (v := .ref w1) rfl dX5_init_38 ?_
  refine lv_iconst (v := 4) hx hb dX5_init_41 (by decide) ?_
  have con3 := (c_X1_init_1 (l := l) (D := D) (cT := cT) (b := b) (ad := ad3a) (E := E3a) v3a_1 (p0 := S2.length) (List.getElem?_concat_length ..) (fun k hk => y_nm (hm2 k (hV3 k hk).1 (hV3 k hk).2.1 (hV3 k hk).2.2.1 (hV3 k hk).2.2.2) (fun e => by subst e; exact hY3 hk)) (by rw [ee3, va_up_self]))
  rw [hw8] at con3
  refine y_callv hw (va_runI (As := [.ref w1, .int 4]) (rest := [.ref w8, .ref (ad 0)]) ⟨hx, hb, hml, hown, hts⟩ con3 (cwI 2 hts ggX5_init_X1_init rfl rfl rfl (hts _ (List.mem_of_getElem? (i := 10) rfl)) (hts (.methodLink RX5 18 yX1_init) (List.mem_of_getElem? (i := 30) rfl)) (hts _ (List.mem_of_getElem? (i := 31) rfl)) rfl (by decide +kernel) ⟨Nat.le_of_ble_eq_true rfl, Nat.le_of_ble_eq_true rfl⟩) (y_preS hK hw) rfl rfl hl.1 rfl (lv_room (Nat.le_of_ble_eq_true rfl)) dX5_init_42 ⟨Nat.le_of_ble_eq_true rfl, Nat.le_of_ble_eq_true rfl⟩) (fun ad3 E3b H locs hw hpo => ?_)
  refine W.widen (k := 173) (n := 486350) (Nat.le_of_ble_eq_true rfl) (Nat.le_of_ble_eq_true rfl) ?_
  obtain ⟨p1_3, p2_3, p3_3⟩ := hpo
  dsimp only at p1_3 p2_3 p3_3
  have hA3b : ad3 0 = ad 0 := (p1_3 0 (by decide)).trans hA3a
  have hE3b : E3b 0 = .inr (5, [.ref w1, .ref w2, .null, .null, .null, .null]) := (p2_3 0 (by decide) (by decide)).trans hE3a
  have v3b_1 : ad3 1 = w1 := (p1_3 1 (by decide)).trans v3a_1
  have v3b_2 : ad3 2 = w2 := (p1_3 2 (by decide)).trans v3a_2
  have v3b_8 : ad3 8 = w8 := (p1_3 8 (by decide)).trans hw8
  refine y_putF (v := .ref w8) (C := RX5) (T := TX5) (N := 6) hx hb hts inX5_init_X5 tyX5 tyX5_ok nmX5 hown hK hw (yap (yap (yap (yap (yap (yap (yap (yap hp2)))))))) hA3b hE3b rfl 2 (by decide) (hts (.fieldLink RX5 25 "SixNumbers" "trial" "LSixNumbers$Heap;") (List.mem_of_getElem? (i := 12) rfl)) (fun _ h9 => h9) rfl hin rfl (ty := .object "SixNumbers$Heap") (by decide +kernel) rfl rfl (Nat.le_of_ble_eq_true rfl) dX5_init_45 (fun E3 H locs e3_3 hw => ?_)
  have hE3 : E3 0 = .inr (5, [.ref w1, .ref w2, .ref w8, .null, .null, .null]) := by rw [e3_3, va_up_self]; rfl
  obtain ⟨I3, -, -⟩ := y_step (g := 3) (t0 := 8) (newp := fun k => k = 9 ∨ k = 10 ∨ (164 ≤ k ∧ k < 180) ∨ k = 11 ∨ (180 ≤ k ∧ k < 196) ∨ k = 12 ∨ k = 13) (by decide) hW3 (by decide) I2 ea3 ee3 p1_3 p2_3 p3_3 e3_3
  have hp3 : ((((((((S2 ++ [8]) ++ [9]) ++ [10]) ++ yrg 164 16) ++ [11]) ++ yrg 180 16) ++ [12]) ++ [13])[p0]? = some 0 := (yap (yap (yap (yap (yap (yap (yap (yap hp2))))))))
  have hm3 : ∀ k, k < 201 → k ≠ 0 → 3 < xg k → xg k < 7 → k ∉ ((((((((S2 ++ [8]) ++ [9]) ++ [10]) ++ yrg 164 16) ++ [11]) ++ yrg 180 16) ++ [12]) ++ [13]) := fun k h1 h2 h3 h4 => (y_na2 (y_na2 (y_nr2 (y_na2 (y_nr2 (y_na2 (y_na2 (y_na2 (hm2 k h1 h2 (by omega) h4) h3 (by decide)) h3 (by decide)) h3 (by decide)) h3 yl_164) h3 (by decide)) h3 yl_180) h3 (by decide)) h3 (by decide))
  obtain ⟨S3, hS3⟩ : ∃ T, ((((((((S2 ++ [8]) ++ [9]) ++ [10]) ++ yrg 164 16) ++ [11]) ++ yrg 180 16) ++ [12]) ++ [13]) = T := ⟨_, rfl⟩
  rw [hS3] at hw hp3 hm3
  refine lv_aload_n hx hb dX5_init_48 rfl (lv_at hl 0 rfl) ?_
  refine y_new (ci := 0) (fs := [.null, .null, .int 0, .null, .null, .int 0]) (C := RX0) (T := TX0) (N := 6) hx hb hts inX5_init_X0 tyX0 tyX0_ok hown (hts (.classLink RX5 28 RX0) (List.mem_of_getElem? (i := 13) rfl)) (hts (.instantiable RX0 6) (List.mem_of_getElem? (i := 14) rfl)) (hts (.initialized RX0) (List.mem_of_getElem? (i := 15) rfl)) hK hw 14 (hm3 14 (by decide) (by decide) (by decide) (by decide)) rfl hF4 (Nat.le_of_ble_eq_true rfl) (Nat.le_of_ble_eq_true rfl) dX5_init_49 (fun q4 ad4a E4a H ea4 ee4 hw => ?_)
  refine W.widen (k := 174) (n := 486356) (Nat.le_of_ble_eq_true rfl) (Nat.le_of_ble_eq_true rfl) ?_
  have hA4a : ad4a 0 = ad 0 := by rw [ea4, va_up_ne _ _ (by decide)]; exact hA3b
  have hE4a : E4a 0 = .inr (5, [.ref w1, .ref w2, .ref w8, .null, .null, .null]) := by rw [ee4, va_up_ne _ _ (by decide)]; exact hE3
  have v4a_1 : ad4a 1 = w1 := by rw [ea4, va_up_ne _ _ (by decide)]; exact v3b_1
  have v4a_2 : ad4a 2 = w2 := by rw [ea4, va_up_ne _ _ (by decide)]; exact v3b_2
  have v4a_8 : ad4a 8 = w8 := by rw [ea4, va_up_ne _ _ (by decide)]; exact v3b_8
  obtain ⟨w14, hw14⟩ : ∃ w : Nat, ad4a 14 = w := ⟨_, rfl⟩
  rw [hw14]
  refine lv_dup hx hb dX5_init_52 rfl ?_
  refine lv_aload_n hx hb dX5_init_53 rfl (lv_at hl 0 rfl) ?_
  refine y_get (C := RX5) (T := TX5) (N := 6) hx hb hts inX5_init_X5 hown hK hw (yap hp3) hA4a hE4a rfl 2 (by decide) (hts (.fieldLink RX5 25 "SixNumbers" "trial" "LSixNumbers$Heap;") (List.mem_of_getElem? (i := 12) rfl)) (fun _ h9 => h9) (v := .ref w8) rfl dX5_init_54 ?_
  have con4 := (c_X0_init (l := l) (D := D) (cT := cT) (b := b) (ad := ad4a) (E := E4a) v4a_8 (p0 := S3.length) (List.getElem?_concat_length ..) (fun k hk => y_nm (hm3 k (hV4 k hk).1 (hV4 k hk).2.1 (hV4 k hk).2.2.1 (hV4 k hk).2.2.2) (fun e => by subst e; exact hY4 hk)) (by rw [ee4, va_up_self]))
  rw [hw14] at con4
  refine y_callv hw (va_runI (As := [.ref w8]) (rest := [.ref w14, .ref (ad 0)]) ⟨hx, hb, hml, hown, hts⟩ con4 (cwI 1 hts ggX5_init_X0_init rfl rfl rfl (hts _ (List.mem_of_getElem? (i := 15) rfl)) (hts (.methodLink RX5 30 yX0_init) (List.mem_of_getElem? (i := 46) rfl)) (hts _ (List.mem_of_getElem? (i := 47) rfl)) rfl (by decide +kernel) ⟨Nat.le_of_ble_eq_true rfl, Nat.le_of_ble_eq_true rfl⟩) (y_preS hK hw) rfl rfl hl.1 rfl (lv_room (Nat.le_of_ble_eq_true rfl)) dX5_init_57 ⟨Nat.le_of_ble_eq_true rfl, Nat.le_of_ble_eq_true rfl⟩) (fun ad4 E4b H locs hw hpo => ?_)
  refine W.widen (k := 182) (n := 501381) (Nat.le_of_ble_eq_true rfl) (Nat.le_of_ble_eq_true rfl) ?_
  obtain ⟨p1_4, p2_4, p3_4⟩ := hpo
  dsimp only at p1_4 p2_4 p3_4
  have hA4b : ad4 0 = ad 0 := (p1_4 0 (by decide)).trans hA4a
  have hE4b : E4b 0 = .inr (5, [.ref w1, .ref w2, .ref w8, .null, .null, .null]) := (p2_4 0 (by decide) (by decide)).trans hE4a
  have v4b_1 : ad4 1 = w1 := (p1_4 1 (by decide)).trans v4a_1
  have v4b_2 : ad4 2 = w2 := (p1_4 2 (by decide)).trans v4a_2
  have v4b_8 : ad4 8 = w8 := (p1_4 8 (by decide)).trans v4a_8
  have v4b_14 : ad4 14 = w14 := (p1_4 14 (by decide)).trans hw14
  refine y_putF (v := .ref w14) (C := RX5) (T := TX5) (N := 6) hx hb hts inX5_init_X5 tyX5 tyX5_ok nmX5 hown hK hw (yap (yap (yap (yap (yap hp3))))) hA4b hE4b rfl 3 (by decide) (hts (.fieldLink RX5 33 "SixNumbers" "box" "LSixNumbers$Box;") (List.mem_of_getElem? (i := 16) rfl)) (fun _ h9 => h9) rfl hin rfl (ty := .object "SixNumbers$Box") (by decide +kernel) rfl rfl (Nat.le_of_ble_eq_true rfl) dX5_init_60 (fun E4 H locs e3_4 hw => ?_)
  have hE4 : E4 0 = .inr (5, [.ref w1, .ref w2, .ref w8, .ref w14, .null, .null]) := by rw [e3_4, va_up_self]; rfl
  obtain ⟨I4, -, -⟩ := y_step (g := 4) (t0 := 14) (newp := fun k => k = 15 ∨ k = 16 ∨ (196 ≤ k ∧ k < 201) ∨ k = 17) (by decide) hW4 (by decide) I3 ea4 ee4 p1_4 p2_4 p3_4 e3_4
  have hp4 : (((((S3 ++ [14]) ++ [15]) ++ [16]) ++ yrg 196 5) ++ [17])[p0]? = some 0 := (yap (yap (yap (yap (yap hp3)))))
  have hm4 : ∀ k, k < 201 → k ≠ 0 → 4 < xg k → xg k < 7 → k ∉ (((((S3 ++ [14]) ++ [15]) ++ [16]) ++ yrg 196 5) ++ [17]) := fun k h1 h2 h3 h4 => (y_na2 (y_nr2 (y_na2 (y_na2 (y_na2 (hm3 k h1 h2 (by omega) h4) h3 (by decide)) h3 (by decide)) h3 (by decide)) h3 yl_196) h3 (by decide))
  obtain ⟨S4, hS4⟩ : ∃ T, (((((S3 ++ [14]) ++ [15]) ++ [16]) ++ yrg 196 5) ++ [17]) = T := ⟨_, rfl⟩
  rw [hS4] at hw hp4 hm4
  refine lv_aload_n hx hb dX5_init_63 rfl (lv_at hl 0 rfl) ?_
  refine y_new (ci := 2) (fs := [.null, .int 0]) (C := RX2) (T := TX2) (N := 2) hx hb hts inX5_init_X2 tyX2 tyX2_ok hown (hts (.classLink RX5 37 RX2) (List.mem_of_getElem? (i := 17) rfl)) (hts (.instantiable RX2 2) (List.mem_of_getElem? (i := 18) rfl)) (hts (.initialized RX2) (List.mem_of_getElem? (i := 19) rfl)) hK hw 18 (hm4 18 (by decide) (by decide) (by decide) (by decide)) rfl hF5 (Nat.le_of_ble_eq_true rfl) (Nat.le_of_ble_eq_true rfl) dX5_init_64 (fun q5 ad5a E5a H ea5 ee5 hw => ?_)
  refine W.widen (k := 183) (n := 501383) (Nat.le_of_ble_eq_true rfl) (Nat.le_of_ble_eq_true rfl) ?_
  have hA5a : ad5a 0 = ad 0 := by rw [ea5, va_up_ne _ _ (by decide)]; exact hA4b
  have hE5a : E5a 0 = .inr (5, [.ref w1, .ref w2, .ref w8, .ref w14, .null, .null]) := by rw [ee5, va_up_ne _ _ (by decide)]; exact hE4
  have v5a_1 : ad5a 1 = w1 := by rw [ea5, va_up_ne _ _ (by decide)]; exact v4b_1
  have v5a_2 : ad5a 2 = w2 := by rw [ea5, va_up_ne _ _ (by decide)]; exact v4b_2
  have v5a_8 : ad5a 8 = w8 := by rw [ea5, va_up_ne _ _ (by decide)]; exact v4b_8
  have v5a_14 : ad5a 14 = w14 := by rw [ea5, va_up_ne _ _ (by decide)]; exact v4b_14
  obtain ⟨w18, hw18⟩ : ∃ w : Nat, ad5a 18 = w := ⟨_, rfl⟩
  rw [hw18]
  refine lv_dup hx hb dX5_init_67 rfl ?_
  have con5 := (c_X2_init (l := l) (D := D) (cT := cT) (b := b) (ad := ad5a) (E := E5a) (p0 := S4.length) (List.getElem?_concat_length ..) (fun k hk => y_nm (hm4 k (hV5 k hk).1 (hV5 k hk).2.1 (hV5 k hk).2.2.1 (hV5 k hk).2.2.2) (fun e => by subst e; exact hY5 hk)) (by rw [ee5, va_up_self]))
  rw [hw18] at con5
  refine y_callv hw (va_runIN (As := []) (rest := [.ref w18, .ref (ad 0)]) ⟨hx, hb, hml, hown, hts⟩ con5 ⟨va_cnB 0 hts ggX5_init_X2_init rfl rfl rfl (hK.2.1 _ (List.mem_of_getElem? (i := 6) rfl)) (hts _ (List.mem_of_getElem? (i := 19) rfl)) (by decide +kernel) ⟨Nat.le_of_ble_eq_true rfl, Nat.le_of_ble_eq_true rfl⟩, rfl, (hts _ (List.mem_of_getElem? (i := 57) rfl))⟩ (y_preS hK hw) rfl rfl hl.1 rfl (lv_room (Nat.le_of_ble_eq_true rfl)) dX5_init_68 ⟨Nat.le_of_ble_eq_true rfl, Nat.le_of_ble_eq_true rfl⟩) (fun ad5 E5b H locs hw hpo => ?_)
  refine W.widen (k := 184) (n := 501416) (Nat.le_of_ble_eq_true rfl) (Nat.le_of_ble_eq_true rfl) ?_
  obtain ⟨p1_5, p2_5, p3_5⟩ := hpo
  dsimp only at p1_5 p2_5 p3_5
  have hA5b : ad5 0 = ad 0 := (p1_5 0 (by decide)).trans hA5a
  have hE5b : E5b 0 = .inr (5, [.ref w1, .ref w2, .ref w8, .ref w14, .null, .null]) := (p2_5 0 (by decide) (by decide)).trans hE5a
  have v5b_1 : ad5 1 = w1 := (p1_5 1 (by decide)).trans v5a_1
  have v5b_2 : ad5 2 = w2 := (p1_5 2 (by decide)).trans v5a_2
  have v5b_8 : ad5 8 = w8 := (p1_5 8 (by decide)).trans v5a_8
  have v5b_14 : ad5 14 = w14 := (p1_5 14 (by decide)).trans v5a_14
  have v5b_18 : ad5 18 = w18 := (p1_5 18 (by decide)).trans hw18
  refine y_putF (v := .ref w18) (C := RX5) (T := TX5) (N := 6) hx hb hts inX5_init_X5 tyX5 tyX5_ok nmX5 hown hK hw (yap (yap hp4)) hA5b hE5b rfl 4 (by decide) (hts (.fieldLink RX5 40 "SixNumbers" "bytes" "LSixNumbers$Out;") (List.mem_of_getElem? (i := 20) rfl)) (fun _ h9 => h9) rfl hin rfl (ty := .object "SixNumbers$Out") (by decide +kernel) rfl rfl (Nat.le_of_ble_eq_true rfl) dX5_init_71 (fun E5 H locs e3_5 hw => ?_)
  have hE5 : E5 0 = .inr (5, [.ref w1, .ref w2, .ref w8, .ref w14, .ref w18, .null]) := by rw [e3_5, va_up_self]; rfl
  obtain ⟨I5, -, -⟩ := y_step (g := 5) (t0 := 18) (newp := fun k => k = 19) (by decide) hW5 (by decide) I4 ea5 ee5 p1_5 p2_5 p3_5 e3_5
  have hp5 : ((S4 ++ [18]) ++ [19])[p0]? = some 0 := (yap (yap hp4))
  have hm5 : ∀ k, k < 201 → k ≠ 0 → 5 < xg k → xg k < 7 → k ∉ ((S4 ++ [18]) ++ [19]) := fun k h1 h2 h3 h4 => (y_na2 (y_na2 (hm4 k h1 h2 (by omega) h4) h3 (by decide)) h3 (by decide))
  obtain ⟨S5, hS5⟩ : ∃ T, ((S4 ++ [18]) ++ [19]) = T := ⟨_, rfl⟩
  rw [hS5] at hw hp5 hm5
  refine lv_aload_n hx hb dX5_init_74 rfl (lv_at hl 0 rfl) ?_
  refine y_new (ci := 4) (fs := [.null, .null, .int 0, .int 0]) (C := RX4) (T := TX4) (N := 4) hx hb hts inX5_init_X4 tyX4 tyX4_ok hown (hts (.classLink RX5 44 RX4) (List.mem_of_getElem? (i := 21) rfl)) (hts (.instantiable RX4 4) (List.mem_of_getElem? (i := 22) rfl)) (hts (.initialized RX4) (List.mem_of_getElem? (i := 23) rfl)) hK hw 20 (hm5 20 (by decide) (by decide) (by decide) (by decide)) rfl hF6 (Nat.le_of_ble_eq_true rfl) (Nat.le_of_ble_eq_true rfl) dX5_init_75 (fun q6 ad6a E6a H ea6 ee6 hw => ?_)
  refine W.widen (k := 185) (n := 501420) (Nat.le_of_ble_eq_true rfl) (Nat.le_of_ble_eq_true rfl) ?_
  have hA6a : ad6a 0 = ad 0 := by rw [ea6, va_up_ne _ _ (by decide)]; exact hA5b
  have hE6a : E6a 0 = .inr (5, [.ref w1, .ref w2, .ref w8, .ref w14, .ref w18, .null]) := by rw [ee6, va_up_ne _ _ (by decide)]; exact hE5
  have v6a_1 : ad6a 1 = w1 := by rw [ea6, va_up_ne _ _ (by decide)]; exact v5b_1
  have v6a_2 : ad6a 2 = w2 := by rw [ea6, va_up_ne _ _ (by decide)]; exact v5b_2
  have v6a_8 : ad6a 8 = w8 := by rw [ea6, va_up_ne _ _ (by decide)]; exact v5b_8
  have v6a_14 : ad6a 14 = w14 := by rw [ea6, va_up_ne _ _ (by decide)]; exact v5b_14
  have v6a_18 : ad6a 18 = w18 := by rw [ea6, va_up_ne _ _ (by decide)]; exact v5b_18
  obtain ⟨w20, hw20⟩ : ∃ w : Nat, ad6a 20 = w := ⟨_, rfl⟩
  rw [hw20]
  refine lv_dup hx hb dX5_init_78 rfl ?_
  have con6 := (c_X4_init (l := l) (D := D) (cT := cT) (b := b) (ad := ad6a) (E := E6a) (p0 := S5.length) (List.getElem?_concat_length ..) (fun k hk => y_nm (hm5 k (hV6 k hk).1 (hV6 k hk).2.1 (hV6 k hk).2.2.1 (hV6 k hk).2.2.2) (fun e => by subst e; exact hY6 hk)) (by rw [ee6, va_up_self]))
  rw [hw20] at con6
  refine y_callv hw (va_runIN (As := []) (rest := [.ref w20, .ref (ad 0)]) ⟨hx, hb, hml, hown, hts⟩ con6 ⟨va_cnB 0 hts ggX5_init_X4_init rfl rfl rfl (hK.2.1 _ (List.mem_of_getElem? (i := 7) rfl)) (hts _ (List.mem_of_getElem? (i := 23) rfl)) (by decide +kernel) ⟨Nat.le_of_ble_eq_true rfl, Nat.le_of_ble_eq_true rfl⟩, rfl, (hts _ (List.mem_of_getElem? (i := 63) rfl))⟩ (y_preS hK hw) rfl rfl hl.1 rfl (lv_room (Nat.le_of_ble_eq_true rfl)) dX5_init_79 ⟨Nat.le_of_ble_eq_true rfl, Nat.le_of_ble_eq_true rfl⟩) (fun ad6 E6b H locs hw hpo => ?_)
  refine W.widen (k := 187) (n := 511502) (Nat.le_of_ble_eq_true rfl) (Nat.le_of_ble_eq_true rfl) ?_
  obtain ⟨p1_6, p2_6, p3_6⟩ := hpo
  dsimp only at p1_6 p2_6 p3_6
  have hA6b : ad6 0 = ad 0 := (p1_6 0 (by decide)).trans hA6a
  have hE6b : E6b 0 = .inr (5, [.ref w1, .ref w2, .ref w8, .ref w14, .ref w18, .null]) := (p2_6 0 (by decide) (by decide)).trans hE6a
  have v6b_1 : ad6 1 = w1 := (p1_6 1 (by decide)).trans v6a_1
  have v6b_2 : ad6 2 = w2 := (p1_6 2 (by decide)).trans v6a_2
  have v6b_8 : ad6 8 = w8 := (p1_6 8 (by decide)).trans v6a_8
  have v6b_14 : ad6 14 = w14 := (p1_6 14 (by decide)).trans v6a_14
  have v6b_18 : ad6 18 = w18 := (p1_6 18 (by decide)).trans v6a_18
  have v6b_20 : ad6 20 = w20 := (p1_6 20 (by decide)).trans hw20
  refine y_putF (v := .ref w20) (C := RX5) (T := TX5) (N := 6) hx hb hts inX5_init_X5 tyX5 tyX5_ok nmX5 hown hK hw (yap (yap (yap hp5))) hA6b hE6b rfl 5 (by decide) (hts (.fieldLink RX5 47 "SixNumbers" "chain" "LSixNumbers$Signs;") (List.mem_of_getElem? (i := 24) rfl)) (fun _ h9 => h9) rfl hin rfl (ty := .object "SixNumbers$Signs") (by decide +kernel) rfl rfl (Nat.le_of_ble_eq_true rfl) dX5_init_82 (fun E6 H locs e3_6 hw => ?_)
  have hE6 : E6 0 = .inr (5, [.ref w1, .ref w2, .ref w8, .ref w14, .ref w18, .ref w20]) := by rw [e3_6, va_up_self]; rfl
  obtain ⟨I6, -, -⟩ := y_step (g := 6) (t0 := 20) (newp := fun k => k = 21 ∨ k = 22) (by decide) hW6 (by decide) I5 ea6 ee6 p1_6 p2_6 p3_6 e3_6
  have hp6 : (((S5 ++ [20]) ++ [21]) ++ [22])[p0]? = some 0 := (yap (yap (yap hp5)))
  have hm6 : ∀ k, k < 201 → k ≠ 0 → 6 < xg k → xg k < 7 → k ∉ (((S5 ++ [20]) ++ [21]) ++ [22]) := fun k h1 h2 h3 h4 => (y_na2 (y_na2 (y_na2 (hm5 k h1 h2 (by omega) h4) h3 (by decide)) h3 (by decide)) h3 (by decide))
  obtain ⟨S6, hS6⟩ : ∃ T, (((S5 ++ [20]) ++ [21]) ++ [22]) = T := ⟨_, rfl⟩
  rw [hS6] at hw hp6 hm6
  rw [show S6 = ((((((((((((((((((((((((((((((((S ++ [1])) ++ [2]) ++ [3]) ++ [4]) ++ yrg 36 64) ++ [5]) ++ yrg 100 64) ++ [6]) ++ [7])) ++ [8]) ++ [9]) ++ [10]) ++ yrg 164 16) ++ [11]) ++ yrg 180 16) ++ [12]) ++ [13])) ++ [14]) ++ [15]) ++ [16]) ++ yrg 196 5) ++ [17])) ++ [18]) ++ [19])) ++ [20]) ++ [21]) ++ [22]) by rw [← hS6, ← hS5, ← hS4, ← hS3, ← hS2, ← hS1]] at hw
  refine y_vret hx hb hr hlocks hK hw ?_ dX5_init_85
  refine ⟨fun k hk => ?_, fun k hk hk0 => ?_, fun k hk => ?_⟩
  · exact I6.2.1 k (fun h => hk (hZ1 h))
  · exact I6.2.2 k hk0 (fun h => hk (hZ2 hk0 h))
  · rcases hk with hk | hk
    · subst hk
      refine hE6.trans ?_
      rw [← v6b_1, ← v6b_2, ← v6b_8, ← v6b_14, ← v6b_18, ← v6b_20]
      rfl
    · exact I6.1 k (hZ3 hk).1 (hZ3 hk).2.1 (hZ3 hk).2.2
