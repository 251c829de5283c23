theorem xisn_of {w : Cond} (h : xisn w = true) {A : Array Value} {U : State} (hb : w.before A U = true) : va_Nw w U := by
  cases w <;> first | exact va_Nw.of rfl hb | (exfalso; revert h; simp [xisn])
set_option maxRecDepth 100000 in
theorem xnest_tbl : ∀ w ∈ xnest, w ∈ lw_tbl := by
  unfold xnest
  exact List.forall_mem_cons.mpr ⟨List.mem_of_getElem? (i := 87) rfl, List.forall_mem_cons.mpr ⟨List.mem_of_getElem? (i := 61) rfl, List.forall_mem_cons.mpr ⟨List.mem_of_getElem? (i := 63) rfl, List.forall_mem_cons.mpr ⟨List.mem_of_getElem? (i := 64) rfl, List.forall_mem_cons.mpr ⟨List.mem_of_getElem? (i := 118) rfl, List.forall_mem_cons.mpr ⟨List.mem_of_getElem? (i := 143) rfl, List.forall_mem_cons.mpr ⟨List.mem_of_getElem? (i := 137) rfl, List.forall_mem_cons.mpr ⟨List.mem_of_getElem? (i := 152) rfl, List.forall_mem_cons.mpr ⟨List.mem_of_getElem? (i := 56) rfl, List.forall_mem_cons.mpr ⟨List.mem_of_getElem? (i := 370) rfl, List.forall_mem_cons.mpr ⟨List.mem_of_getElem? (i := 505) rfl, fun _ h => absurd h List.not_mem_nil⟩⟩⟩⟩⟩⟩⟩⟩⟩⟩⟩
set_option maxHeartbeats 2000000 in
set_option maxRecDepth 100000 in
/-- what the Statement gives of the start -/
theorem start_S {p : Program} {s : State} {m : MethodId} {meth : Method} {c : Code} {b L : Nat} {xs : Nat → Int32} (C0 : lw_At p s m meth c b L xs) : ∃ (D : va_G) (cT : Nat → ClassId) (aK aV : Nat), yK D cT s ∧ ∀ ad : Nat → Nat, xT (D, cT, ad, s.heap.size, aK, aV) s s.heap := by
  obtain ⟨hx, hb, hr, hml, hown, hts, hX, hbl, hlocks, hgv⟩ := id C0
  have hs := flat_of_before _ hgv
  have hA : ∀ a : Nat, a < s.heap.size → ¬ (fun q : Nat => s.heap.size ≤ q) a := fun a h => Nat.not_le.mpr h
  obtain ⟨c0, iS0, hKn0⟩ := u_known (C := RX0) (T := TX0) (N := 6) (n := 6) hts inT_X0 (hts _ (List.mem_of_getElem? (i := 109) rfl) : (Cond.instantiable RX0 6).before _ _ = true)
  obtain ⟨c1, iS1, hKn1⟩ := u_known (C := RX1) (T := TX1) (N := 8) (n := 8) hts inT_X1 (hts _ (List.mem_of_getElem? (i := 71) rfl) : (Cond.instantiable RX1 8).before _ _ = true)
  obtain ⟨c2, iS2, hKn2⟩ := u_known (C := RX2) (T := TX2) (N := 2) (n := 2) hts inT_X2 (hts _ (List.mem_of_getElem? (i := 136) rfl) : (Cond.instantiable RX2 2).before _ _ = true)
  obtain ⟨c3, iS3, hKn3⟩ := u_known (C := RX3) (T := TX3) (N := 2) (n := 2) hts inT_X3 (hts _ (List.mem_of_getElem? (i := 55) rfl) : (Cond.instantiable RX3 2).before _ _ = true)
  obtain ⟨c4, iS4, hKn4⟩ := u_known (C := RX4) (T := TX4) (N := 4) (n := 4) hts inT_X4 (hts _ (List.mem_of_getElem? (i := 151) rfl) : (Cond.instantiable RX4 4).before _ _ = true)
  obtain ⟨c5, iS5, hKn5⟩ := u_known (C := RX5) (T := TX5) (N := 6) (n := 6) hts inT_X5 (hts _ (List.mem_of_getElem? (i := 47) rfl) : (Cond.instantiable RX5 6).before _ _ = true)
  obtain ⟨c6, iS6, hKn6⟩ := u_known (C := RX6) (T := TX6) (N := 20) (n := 20) hts inT_X6 (hts _ (List.mem_of_getElem? (i := 524) rfl) : (Cond.instantiable RX6 20).before _ _ = true)
  obtain ⟨aI, hI1, hI2⟩ : ∃ cA : ClassId, ArrOfT s cA .int ∧ va_RA s cA .int := by
    obtain ⟨cA, k, comp, h1, h2, h3⟩ := Cond.arrayClass_spec (hts _ (List.mem_of_getElem? (i := 106) rfl) : (Cond.arrayClass .int).before _ _ = true)
    exact ⟨cA, fun N z => ⟨(fun q hq => by cases hq), k, h2, comp, h3⟩, h1⟩
  obtain ⟨aJ, hJ1, hJ2⟩ : ∃ cA : ClassId, ArrOfT s cA .long ∧ va_RA s cA .long := by
    obtain ⟨cA, k, comp, h1, h2, h3⟩ := Cond.arrayClass_spec (hts _ (List.mem_of_getElem? (i := 107) rfl) : (Cond.arrayClass .long).before _ _ = true)
    exact ⟨cA, fun N z => ⟨(fun q hq => by cases hq), k, h2, comp, h3⟩, h1⟩
  obtain ⟨aC, hC1, hC2⟩ : ∃ cA : ClassId, ArrOfT s cA .char ∧ va_RA s cA .char := by
    obtain ⟨cA, k, comp, h1, h2, h3⟩ := Cond.arrayClass_spec (hts _ (List.mem_of_getElem? (i := 149) rfl) : (Cond.arrayClass .char).before _ _ = true)
    exact ⟨cA, fun N z => ⟨(fun q hq => by cases hq), k, h2, comp, h3⟩, h1⟩
  have oII : va_AOA .int s := (hts _ (List.mem_of_getElem? (i := 79) rfl) : (Cond.arrayOver (.array .int)).before _ _ = true)
  obtain ⟨aII, hII1, hII2⟩ : ∃ cA : ClassId, ArrOfT s cA (.array .int) ∧ va_RA s cA (.array .int) := by
    obtain ⟨comp, cA, kA, q1, q2, q3, q4, q5⟩ := arrayOverA_spec oII
    exact ⟨cA, fun N z => ⟨(fun q hq => by cases hq), kA, q3, comp, q4⟩, q5⟩
  have oJJ : va_AOA .long s := (hts _ (List.mem_of_getElem? (i := 77) rfl) : (Cond.arrayOver (.array .long)).before _ _ = true)
  obtain ⟨aJJ, hJJ1, hJJ2⟩ : ∃ cA : ClassId, ArrOfT s cA (.array .long) ∧ va_RA s cA (.array .long) := by
    obtain ⟨comp, cA, kA, q1, q2, q3, q4, q5⟩ := arrayOverA_spec oJJ
    exact ⟨cA, fun N z => ⟨(fun q hq => by cases hq), kA, q3, comp, q4⟩, q5⟩
  obtain ⟨adK, adV, hSt, hev⟩ := vk_Sof (N := 1) (tm := fun _ => Term.string "SixNumbers" 183) (len := [4]) (byt := [[43, 45, 42, 47]]) (A := fun q : Nat => s.heap.size ≤ q) (args := #[Value.ref b]) (s := s)
    (fun i hi => by rw [show i = 0 by omega]; decide) (fun i _ => hs _ (by decide +kernel)) (fun i _ => hs _ (by decide +kernel)) (fun i _ => hs _ (by decide +kernel)) (fun i hi => by rw [show i = 0 by omega]; exact hs _ (by decide +kernel))
    (fun i hi j hj => by
      rw [show i = 0 by omega] at hj ⊢
      have hj : j < 4 := hj
      rcases (show j = 0 ∨ j = 1 ∨ j = 2 ∨ j = 3 by omega) with rfl | rfl | rfl | rfl <;> exact hs _ (by decide +kernel))
    (fun i j hi hj h => absurd (show i = j by omega) h) hA
  refine ⟨(fun k => if k = 0 then c0 else if k = 1 then c1 else if k = 2 then c2 else if k = 3 then c3 else if k = 4 then c4 else if k = 5 then c5 else c6, fun k => if k = 0 then iS0 else if k = 1 then iS1 else if k = 2 then iS2 else if k = 3 then iS3 else if k = 4 then iS4 else if k = 5 then iS5 else iS6), fun k => if k = 0 then aI else if k = 1 then aJ else if k = 2 then aC else if k = 3 then aII else aJJ, adK 0, adV 0, ⟨⟨?_, ?_⟩, fun w hw => ?_, oII, oJJ⟩, fun ad => ?_⟩
  · intro k q hq
    match k, hq with
    | 0, hq => cases hq; exact hKn0
    | 1, hq => cases hq; exact hKn1
    | 2, hq => cases hq; exact hKn2
    | 3, hq => cases hq; exact hKn3
    | 4, hq => cases hq; exact hKn4
    | 5, hq => cases hq; exact hKn5
    | 6, hq => cases hq; exact hKn6
    | k + 7, hq => simp [vwCl] at hq
  · intro k q hq
    match k, hq with
    | 0, hq => cases hq; exact ⟨hI1, hI2⟩
    | 1, hq => cases hq; exact ⟨hJ1, hJ2⟩
    | 2, hq => cases hq; exact ⟨hC1, hC2⟩
    | 3, hq => cases hq; exact ⟨hII1, hII2⟩
    | 4, hq => cases hq; exact ⟨hJJ1, hJJ2⟩
    | k + 5, hq => simp [ctys] at hq
  · exact xisn_of (xnest_is w hw) (hts w (xnest_tbl w hw))
  · obtain ⟨q1, q2, q3, q4⟩ := hSt.1 0 (by decide)
    exact ⟨vk_R.of (A := #[Value.ref b]) (hts _ (List.mem_of_getElem? (i := 374) rfl)) (hev 0 (by decide)), q1, q2, q3, q4, va_Zof (args := #[Value.ref b]) (hts _ (List.mem_of_getElem? (i := 384) rfl)) (hts _ (List.mem_of_getElem? (i := 42) rfl)) (va_eqi (hs _ (by decide +kernel))) hA, va_Zqof (args := #[Value.ref b]) (hts _ (List.mem_of_getElem? (i := 392) rfl)) (hts _ (List.mem_of_getElem? (i := 44) rfl)) (hs _ (by decide +kernel)) hA⟩
theorem hFs5 : ∀ j, j < 6 → defaultValue (tyX5 j) = vp_V [.null, .null, .null, .null, .null, .null] j := fun j hj => by rcases (show j = 0 ∨ j = 1 ∨ j = 2 ∨ j = 3 ∨ j = 4 ∨ j = 5 by omega) with rfl | rfl | rfl | rfl | rfl | rfl <;> rfl
theorem hFs6 : ∀ j, j < 20 → defaultValue (tyX6 j) = vp_V [.int 0, .null, .int 0, .int 0, .int 0, .null, .null, .int 0, .null, .int 0, .null, .null, .null, .int 0, .null, .null, .int 0, .null, .null, .null] j := fun j hj => by rcases (show j = 0 ∨ j = 1 ∨ j = 2 ∨ j = 3 ∨ j = 4 ∨ j = 5 ∨ j = 6 ∨ j = 7 ∨ j = 8 ∨ j = 9 ∨ j = 10 ∨ j = 11 ∨ j = 12 ∨ j = 13 ∨ j = 14 ∨ j = 15 ∨ j = 16 ∨ j = 17 ∨ j = 18 ∨ j = 19 by omega) with rfl | rfl | rfl | rfl | rfl | rfl | rfl | rfl | rfl | rfl | rfl | rfl | rfl | rfl | rfl | rfl | rfl | rfl | rfl | rfl <;> rfl
theorem y_all {S : List Nat} (h0 : S = [0]) : ∀ k, k < 201 → (k < 23 ∨ 36 ≤ k) → k ∈ ((((((((((((((((((((((((((((((((S ++ [1])) ++ [2]) ++ [3]) ++ [4]) ++ yrg 36 64) ++ [5]) ++ yrg 100 64) ++ [6]) ++ [7])) ++ [8]) ++ [9]) ++ [10]) ++ yrg 164 16) ++ [11]) ++ yrg 180 16) ++ [12]) ++ [13])) ++ [14]) ++ [15]) ++ [16]) ++ yrg 196 5) ++ [17])) ++ [18]) ++ [19])) ++ [20]) ++ [21]) ++ [22]) := by
  subst h0
  intro k h1 h2
  simp only [List.mem_append, List.mem_cons, List.not_mem_nil, mem_yrg, or_false]
  omega
theorem y_not {S : List Nat} (h0 : S = [0]) : ∀ k, (23 ≤ k ∧ k < 36) → k ∉ ((((((((((((((((((((((((((((((((S ++ [1])) ++ [2]) ++ [3]) ++ [4]) ++ yrg 36 64) ++ [5]) ++ yrg 100 64) ++ [6]) ++ [7])) ++ [8]) ++ [9]) ++ [10]) ++ yrg 164 16) ++ [11]) ++ yrg 180 16) ++ [12]) ++ [13])) ++ [14]) ++ [15]) ++ [16]) ++ yrg 196 5) ++ [17])) ++ [18]) ++ [19])) ++ [20]) ++ [21]) ++ [22]) := by
  subst h0
  intro k h1 h2
  simp only [List.mem_append, List.mem_cons, List.not_mem_nil, mem_yrg, or_false] at h2
  omega
theorem y_allM {S : List Nat} (h : ∀ k, k < 201 → (k < 23 ∨ 36 ≤ k) → k ∈ S) : ∀ k, k < 201 → k ∈ (fun (S : List Nat) => ((((((((((((S ++ [24]) ++ [25]) ++ [26]) ++ [27]) ++ [28]) ++ [29]) ++ [30]) ++ [31]) ++ [32]) ++ [33]) ++ [34]) ++ [35])) (S ++ [23]) := by
  intro k h1
  by_cases h2 : k < 23 ∨ 36 ≤ k
  · have := h k h1 h2
    simp [this]
  · simp only [List.mem_append, List.mem_cons, List.not_mem_nil, or_false]
    omega
theorem y_notM {S : List Nat} (h : ∀ k, (23 ≤ k ∧ k < 36) → k ∉ S) : ∀ k, (k = 24 ∨ k = 25 ∨ k = 26 ∨ k = 27 ∨ k = 28 ∨ k = 29 ∨ k = 30 ∨ k = 31 ∨ k = 32 ∨ k = 33 ∨ k = 34 ∨ k = 35) → k ∉ S ++ [23] := fun k hk => y_nm (h k (by omega)) (by omega)
/-- the constructors' world is the methods' -/
theorem y_xW {D : va_G} {cT : Nat → ClassId} {b aK aV : Nat} {H0 H : Heap} {S : List Nat} {ad : Nat → Nat} {E : Nat → va_E} {locs : List Loc} (hw : yW D b H0 S ad E H locs) (hS : ∀ k, k < 201 → k ∈ S) (hE : ∀ k, k < 201 → E k = xF cT ad (xA0 k) (xL0 k) k) : xW (D, cT, ad, b, aK, aV) H0 xA0 xL0 H locs ∧ (∀ i j, i < 201 → j < 201 → ad i = ad j → i = j) ∧ ∀ i, i < 201 → b ≤ ad i := by
  have hp : ∀ k, k < 201 → ∃ p, S[p]? = some k := fun k hk => List.getElem?_of_mem (hS k hk)
  refine ⟨⟨fun k q hq => ?_, hw.2.2.1⟩, fun i j hi hj e => ?_, fun i hi => ?_⟩
  · obtain ⟨h1, rfl⟩ := xw_of hq
    obtain ⟨p, h2⟩ := hp k h1
    have h3 := hw.1 p _ (yw_at h2)
    rw [hE k h1] at h3
    exact h3
  · obtain ⟨p, h2⟩ := hp i hi
    obtain ⟨p', h2'⟩ := hp j hj
    have := hw.2.1.1 p p' _ _ (yw_at h2) (yw_at h2') e
    subst this
    exact Option.some.inj (h2.symm.trans h2')
  · obtain ⟨p, h2⟩ := hp i hi
    exact hw.2.1.2 p _ (yw_at h2)
set_option maxHeartbeats 2000000 in
set_option maxRecDepth 100000 in
theorem start_open (law_math : ∀ (xs : Nat → Int32) (Ln : Nat), Ln ≤ 2048 → ∃ n, v_law_18 xs Ln n 0 xA0 xL0) {p : Program} {e : Env} {s : State} {m : MethodId} {below : List Frame} {meth : Method} {c : Code} (l : Launch) {b L : Nat} {xs : Nat → Int32} (hL : L ≤ 2048) (C0 : lw_At p s m meth c b L xs) : W p l e room_1 s m #[Value.ref b] below meth c s.heap [] 0 0 (lw_Z below #[Value.ref b] s) (entryFrame m ([Value.ref b] : List Value).toArray 4) := by
  obtain ⟨D, cT, aK, aV, hK, hT⟩ := start_S C0
  obtain ⟨hx, hb, hr, hml, hown, hts, hX, hbl, hlocks, hgv⟩ := id C0
  have hl := lv_entry ([.ref b]) (n := 4) (Nat.le_of_ble_eq_true rfl)
  rw [lg_entry_eq]
  generalize (lg_sl ([.ref b]) ++ List.replicate (4 - (lg_sl ([.ref b])).length) Slot.unset).toArray = ls at hl ⊢
  have hl : lv_has ls 4 [(0, .ref b)] := hl
  have hw : yW D s.heap.size s.heap [] (fun _ => 0) (fun _ => .inr (0, [])) s.heap [] := ⟨fun k q h => by simp [yw] at h, ⟨fun i j p q h => by simp [yw] at h, fun k q h => by simp [yw] at h⟩, va_S.rf, Nat.le_refl _⟩
  refine y_new (ci := 5) (fs := [.null, .null, .null, .null, .null, .null]) (C := RX5) (T := TX5) (N := 6) hx hb hts inT_X5 tyX5 tyX5_ok hown (hts _ (List.mem_of_getElem? (i := 46) rfl)) (hts _ (List.mem_of_getElem? (i := 47) rfl)) (hts _ (List.mem_of_getElem? (i := 33) rfl)) hK hw 0 List.not_mem_nil rfl hFs5 (Nat.le_of_ble_eq_true rfl) (Nat.le_of_ble_eq_true rfl) dL_law_0 (fun q1 ad1 E1 H ead1 eE1 hw => ?_)
  refine W.widen (k := 1) (n := 6) (Nat.le_of_ble_eq_true rfl) (Nat.le_of_ble_eq_true rfl) ?_
  obtain ⟨w0, hw0⟩ : ∃ w : Nat, ad1 0 = w := ⟨_, rfl⟩
  rw [hw0]
  refine lv_dup hx hb dL_law_3 rfl ?_
  have con := c_X5_init (l := l) (D := D) (cT := cT) (b := s.heap.size) (S := [0]) (ad := ad1) (E := E1) (p0 := 0) rfl (fun k hk => by simp; omega) (by rw [eE1, va_up_self])
  rw [hw0] at con
  refine y_callv hw (va_runI (As := []) (rest := [.ref w0]) ⟨hx, hb, hml, hown, hts⟩ con (cwI 0 hts gT_X5_init rfl rfl rfl (hts _ (List.mem_of_getElem? (i := 33) rfl)) (hts _ (List.mem_of_getElem? (i := 48) rfl)) (hts _ (List.mem_of_getElem? (i := 49) rfl)) rfl (by decide +kernel) ⟨Nat.le_of_ble_eq_true rfl, Nat.le_of_ble_eq_true rfl⟩) (y_preS hK hw) rfl rfl hl.1 rfl (lv_room (Nat.le_of_ble_eq_true rfl)) dL_law_4 ⟨Nat.le_of_ble_eq_true rfl, Nat.le_of_ble_eq_true rfl⟩) (fun ad2 E2 H locs hw hpo => ?_)
  obtain ⟨p1, p2, p3⟩ := hpo
  dsimp only at p1 p2 p3
  refine W.widen (k := 188) (n := 511508) (Nat.le_of_ble_eq_true rfl) (Nat.le_of_ble_eq_true rfl) ?_
  have v0 : ad2 0 = w0 := (p1 0 (by decide)).trans hw0
  refine lv_astore_n (lv' := [(1, .ref w0), (0, .ref b)]) hx hb dL_law_7 rfl hl (by decide) rfl (fun ls hl => ?_)
  have hin0 := y_all (S := [0]) rfl
  have hno0 := y_not (S := [0]) rfl
  generalize hS1 : (((((((((((((((((((((((((((((((([0] ++ [1])) ++ [2]) ++ [3]) ++ [4]) ++ yrg 36 64) ++ [5]) ++ yrg 100 64) ++ [6]) ++ [7])) ++ [8]) ++ [9]) ++ [10]) ++ yrg 164 16) ++ [11]) ++ yrg 180 16) ++ [12]) ++ [13])) ++ [14]) ++ [15]) ++ [16]) ++ yrg 196 5) ++ [17])) ++ [18]) ++ [19])) ++ [20]) ++ [21]) ++ [22]) = S1 at hw hin0 hno0
  refine y_new (ci := 6) (fs := [.int 0, .null, .int 0, .int 0, .int 0, .null, .null, .int 0, .null, .int 0, .null, .null, .null, .int 0, .null, .null, .int 0, .null, .null, .null]) (C := RX6) (T := TX6) (N := 20) hx hb hts inT_X6 tyX6 tyX6_ok hown (hts _ (List.mem_of_getElem? (i := 523) rfl)) (hts _ (List.mem_of_getElem? (i := 524) rfl)) (hts _ (List.mem_of_getElem? (i := 39) rfl)) hK hw 23 (hno0 23 (by decide)) rfl hFs6 (Nat.le_of_ble_eq_true rfl) (Nat.le_of_ble_eq_true rfl) dL_law_8 (fun q2 ad3 E3 H ead3 eE3 hw => ?_)
  refine W.widen (k := 189) (n := 511528) (Nat.le_of_ble_eq_true rfl) (Nat.le_of_ble_eq_true rfl) ?_
  obtain ⟨w1, hw1⟩ : ∃ w : Nat, ad3 23 = w := ⟨_, rfl⟩
  rw [hw1]
  refine lv_dup hx hb dL_law_11 rfl ?_
  have con := c_X6_init (l := l) (D := D) (cT := cT) (b := s.heap.size) (S := S1 ++ [23]) (ad := ad3) (E := E3) (p0 := S1.length) (List.getElem?_concat_length ..) (y_notM hno0) (by rw [eE3, va_up_self])
  rw [hw1] at con
  refine y_callv hw (va_runI (As := []) (rest := [.ref w1]) ⟨hx, hb, hml, hown, hts⟩ con (cwI 0 hts gT_X6_init rfl rfl rfl (hts _ (List.mem_of_getElem? (i := 39) rfl)) (hts _ (List.mem_of_getElem? (i := 525) rfl)) (hts _ (List.mem_of_getElem? (i := 526) rfl)) rfl (by decide +kernel) ⟨Nat.le_of_ble_eq_true rfl, Nat.le_of_ble_eq_true rfl⟩) (y_preS hK hw) rfl rfl hl.1 rfl (lv_room (Nat.le_of_ble_eq_true rfl)) dL_law_12 ⟨Nat.le_of_ble_eq_true rfl, Nat.le_of_ble_eq_true rfl⟩) (fun ad4 E4 H locs hw hpo => ?_)
  obtain ⟨r1, r2, r3⟩ := hpo
  dsimp only at r1 r2 r3
  refine W.widen (k := 600000) (n := 7302250) (Nat.le_of_ble_eq_true rfl) (Nat.le_of_ble_eq_true rfl) ?_
  have u0 : ad4 0 = w0 := by rw [r1 0 (by decide), ead3, va_up_ne _ _ (by decide)]; exact v0
  have u1 : ad4 23 = w1 := (r1 23 (by decide)).trans hw1
  refine lv_astore_n (lv' := [(2, .ref w1), (1, .ref w0), (0, .ref b)]) hx hb dL_law_15 rfl hl (by decide) rfl (fun ls hl => ?_)
  refine lv_iconst (v := 0) hx hb dL_law_16 (by decide) ?_
  refine lv_istore_n (lv' := [(3, .int 0), (2, .ref w1), (1, .ref w0), (0, .ref b)]) hx hb dL_law_17 rfl hl (by decide) rfl (fun ls hl => ?_)
  have hE : ∀ k, k < 201 → E4 k = xF cT ad4 (xA0 k) (xL0 k) k := fun k hk => by
    by_cases hM : 23 ≤ k ∧ k < 36
    · exact r3 k (by omega)
    · rw [r2 k (by omega) (by omega), eE3, va_up_ne _ _ (by omega), p3 k (by omega)]
      have hagree : ∀ t, ¬ (23 ≤ t ∧ t < 36) → ad2 t = ad4 t := fun t ht => by
        rw [r1 t (by omega), ead3, va_up_ne _ _ (by omega)]
      by_cases h0 : k = 0
      · subst h0
        show va_E_o 5 (xfs ad2 (xA0 0) 0) = va_E_o 5 (xfs ad4 (xA0 0) 0)
        simp only [xfs, hagree 1 (by decide), hagree 2 (by decide), hagree 8 (by decide), hagree 14 (by decide), hagree 18 (by decide), hagree 20 (by decide)]
      · refine xF_ext fun t ht => hagree t (fun h => ?_)
        have h7 : xg t = 7 := by unfold xg; (repeat' split) <;> omega
        have h8 : xg k ≤ 6 := xg_le.mpr (by omega)
        omega
  obtain ⟨hW, hinj, hge⟩ := y_xW (cT := cT) (aK := aK) (aV := aV) hw (y_allM hin0) hE
  have hG : xS (D, cT, ad4, s.heap.size, aK, aV) s := ⟨hK.1, hinj, hge, hK.2.1, hT ad4⟩
  obtain ⟨n, hn⟩ := law_math xs L hL
  refine law_loop (G := (D, cT, ad4, s.heap.size, aK, aV)) C0 hG rfl n 0 xA0 xL0 _ _ ls hW ?_ hn
  have e0 : xad (D, cT, ad4, s.heap.size, aK, aV) 0 = w0 := u0
  have e1 : xad (D, cT, ad4, s.heap.size, aK, aV) 23 = w1 := u1
  rw [e0, e1]
  exact lv_sub hl [3, 2, 1, 0] rfl
