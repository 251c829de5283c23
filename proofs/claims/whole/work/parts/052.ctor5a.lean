def yI (cT : Nat → ClassId) (g : Nat) (ad0 : Nat → Nat) (E0 : Nat → va_E) (ad : Nat → Nat) (E : Nat → va_E) : Prop := (∀ k, k < 201 → k ≠ 0 → xg k ≤ g → E k = xF cT ad (xA0 k) (xL0 k) k) ∧ (∀ k, ¬ (k < 201 ∧ k ≠ 0 ∧ xg k ≤ g) → ad k = ad0 k) ∧ (∀ k, k ≠ 0 → ¬ (k < 201 ∧ xg k ≤ g) → E k = E0 k)
theorem xg_pos {k : Nat} : 1 ≤ xg k := by unfold xg; (repeat' split) <;> omega
theorem xg_1 {k : Nat} : xg k = 1 ↔ k = 1 := by unfold xg; (repeat' split) <;> omega
theorem xg_2 {k : Nat} : xg k = 2 ↔ (2 ≤ k ∧ k < 8) ∨ (36 ≤ k ∧ k < 164) := by unfold xg; (repeat' split) <;> omega
theorem xg_3 {k : Nat} : xg k = 3 ↔ (8 ≤ k ∧ k < 14) ∨ (164 ≤ k ∧ k < 196) := by unfold xg; (repeat' split) <;> omega
theorem xg_4 {k : Nat} : xg k = 4 ↔ (14 ≤ k ∧ k < 18) ∨ 196 ≤ k := by unfold xg; (repeat' split) <;> omega
theorem xg_5 {k : Nat} : xg k = 5 ↔ (18 ≤ k ∧ k < 20) := by unfold xg; (repeat' split) <;> omega
theorem xg_6 {k : Nat} : xg k = 6 ↔ (20 ≤ k ∧ k < 23) := by unfold xg; (repeat' split) <;> omega
theorem xg_le {k : Nat} : xg k ≤ 6 ↔ ((1 ≤ k ∧ k < 23) ∨ 36 ≤ k) := by unfold xg; (repeat' split) <;> omega
theorem yI_0 {cT : Nat → ClassId} {ad : Nat → Nat} {E : Nat → va_E} : yI cT 0 ad E ad E := ⟨fun k _ _ h => absurd h (by have := @xg_pos k; omega), fun _ _ => rfl, fun _ _ _ => rfl⟩
theorem y_step {cT : Nat → ClassId} {g t0 : Nat} {ad0 adA ad1 ad2 : Nat → Nat} {E0 EA E1 E2 E3 : Nat → va_E} {newp : Nat → Prop} {q : Nat} {X Y : va_E} (hg : 1 ≤ g ∧ g ≤ 6) (hnew : ∀ k, (k = t0 ∨ newp k) ↔ (k < 201 ∧ xg k = g)) (ht0 : ¬ newp t0)
    (I : yI cT (g - 1) ad0 E0 adA EA) (ea : ad1 = va_up adA t0 q) (ee : E1 = va_up EA t0 X) (p1 : ∀ k, ¬ newp k → ad2 k = ad1 k) (p2 : ∀ k, ¬ newp k → k ≠ t0 → E2 k = E1 k) (p3 : ∀ k, (k = t0 ∨ newp k) → E2 k = xF cT ad2 (xA0 k) (xL0 k) k) (e3 : E3 = va_up E2 0 Y) :
    yI cT g ad0 E0 ad2 E3 ∧ (∀ k, ¬ (k < 201 ∧ xg k = g) → ad2 k = adA k) ∧ E2 0 = EA 0 := by
  have g0 : ¬ (0 < 201 ∧ xg 0 = g) := by
    have : xg 0 = 8 := rfl
    omega
  have out1 : ∀ k, ¬ (k < 201 ∧ xg k = g) → ad2 k = adA k := fun k hk => by
    have h1 : ¬ (k = t0 ∨ newp k) := fun h => hk ((hnew k).mp h)
    rw [p1 k (fun h => h1 (Or.inr h)), ea, va_up_ne _ _ (fun h => h1 (Or.inl h))]
  have out2 : ∀ k, ¬ (k < 201 ∧ xg k = g) → E2 k = EA k := fun k hk => by
    have h1 : ¬ (k = t0 ∨ newp k) := fun h => hk ((hnew k).mp h)
    rw [p2 k (fun h => h1 (Or.inr h)) (fun h => h1 (Or.inl h)), ee, va_up_ne _ _ (fun h => h1 (Or.inl h))]
  refine ⟨⟨fun k h1 h2 h3 => ?_, fun k hk => ?_, fun k h2 hk => ?_⟩, out1, out2 0 g0⟩
  · rw [e3, va_up_ne _ _ h2]
    by_cases hk : xg k = g
    · exact p3 k ((hnew k).mpr ⟨h1, hk⟩)
    · rw [out2 k (fun h => hk h.2), I.1 k h1 h2 (by omega)]
      exact xF_ext fun t ht => (out1 t (fun h => by omega)).symm
  · rw [out1 k (fun h => hk ⟨h.1, fun e => by subst e; exact g0 h, by omega⟩)]
    exact I.2.1 k (fun h => hk ⟨h.1, h.2.1, by omega⟩)
  · rw [e3, va_up_ne _ _ h2, out2 k (fun h => hk ⟨h.1, by omega⟩)]
    exact I.2.2 k h2 (fun h => hk ⟨h.1, by omega⟩)
theorem y_na {S : List Nat} {t k g : Nat} (h : t ∉ S) (hx : xg t = g) (hk : xg k ≠ g) : t ∉ S ++ [k] := y_nm h (fun e => hk (e ▸ hx))
theorem y_nr {S : List Nat} {t b n g : Nat} (h : t ∉ S) (hx : xg t = g) (hr : ∀ j, b ≤ j ∧ j < b + n → xg j ≠ g) : t ∉ S ++ yrg b n := y_nmr h (fun e => hr t e hx)
theorem yr_36 {g : Nat} (hg : g ≠ 2) : ∀ j, 36 ≤ j ∧ j < 36 + 64 → xg j ≠ g := fun j hj e => hg (e.symm.trans (xg_2.mpr (Or.inr (by omega))))
theorem yr_100 {g : Nat} (hg : g ≠ 2) : ∀ j, 100 ≤ j ∧ j < 100 + 64 → xg j ≠ g := fun j hj e => hg (e.symm.trans (xg_2.mpr (Or.inr (by omega))))
theorem yr_164 {g : Nat} (hg : g ≠ 3) : ∀ j, 164 ≤ j ∧ j < 164 + 16 → xg j ≠ g := fun j hj e => hg (e.symm.trans (xg_3.mpr (Or.inr (by omega))))
theorem yr_180 {g : Nat} (hg : g ≠ 3) : ∀ j, 180 ≤ j ∧ j < 180 + 16 → xg j ≠ g := fun j hj e => hg (e.symm.trans (xg_3.mpr (Or.inr (by omega))))
theorem yr_196 {g : Nat} (hg : g ≠ 4) : ∀ j, 196 ≤ j ∧ j < 196 + 5 → xg j ≠ g := fun j hj e => hg (e.symm.trans (xg_4.mpr (Or.inr (by omega))))
theorem y_na2 {S : List Nat} {t k g : Nat} (h : t ∉ S) (hx : g < xg t) (hk : xg k ≤ g) : t ∉ S ++ [k] := y_nm h (fun e => by subst e; omega)
theorem y_nr2 {S : List Nat} {t b n g : Nat} (h : t ∉ S) (hx : g < xg t) (hr : ∀ j, b ≤ j ∧ j < b + n → xg j ≤ g) : t ∉ S ++ yrg b n := y_nmr h (fun e => by have := hr t e; omega)
theorem yl_36 : ∀ j, 36 ≤ j ∧ j < 36 + 64 → xg j ≤ 2 := fun j hj => Nat.le_of_eq (xg_2.mpr (Or.inr (by omega)))
theorem yl_100 : ∀ j, 100 ≤ j ∧ j < 100 + 64 → xg j ≤ 2 := fun j hj => Nat.le_of_eq (xg_2.mpr (Or.inr (by omega)))
theorem yl_164 : ∀ j, 164 ≤ j ∧ j < 164 + 16 → xg j ≤ 3 := fun j hj => Nat.le_of_eq (xg_3.mpr (Or.inr (by omega)))
theorem yl_180 : ∀ j, 180 ≤ j ∧ j < 180 + 16 → xg j ≤ 3 := fun j hj => Nat.le_of_eq (xg_3.mpr (Or.inr (by omega)))
theorem yl_196 : ∀ j, 196 ≤ j ∧ j < 196 + 5 → xg j ≤ 4 := fun j hj => Nat.le_of_eq (xg_4.mpr (Or.inr (by omega)))
theorem yap2 {S S1 : List Nat} {p k : Nat} (h : S[p]? = some k) (h1 : ∃ T, S1 = S ++ T) : S1[p]? = some k := by
  obtain ⟨T, rfl⟩ := h1
  exact yap h
theorem hF1 : ∀ j, j < 2 → defaultValue (tyX3 j) = vp_V [.int 0, .int 0] j := fun j hj => by rcases (show j = 0 ∨ j = 1 by omega) with rfl | rfl <;> rfl
theorem hW1 : ∀ k, (k = 1 ∨ k < 0) ↔ (k < 201 ∧ xg k = 1) := fun k => by rw [xg_1]; omega
theorem hF2 : ∀ j, j < 8 → defaultValue (tyX1 j) = vp_V [.null, .null, .null, .null, .null, .null, .int 0, .int 0] j := fun j hj => by rcases (show j = 0 ∨ j = 1 ∨ j = 2 ∨ j = 3 ∨ j = 4 ∨ j = 5 ∨ j = 6 ∨ j = 7 by omega) with rfl | rfl | rfl | rfl | rfl | rfl | rfl | rfl <;> rfl
theorem hV2 : ∀ k, (k = 3 ∨ k = 4 ∨ (36 ≤ k ∧ k < 100) ∨ k = 5 ∨ (100 ≤ k ∧ k < 164) ∨ k = 6 ∨ k = 7) → k < 201 ∧ k ≠ 0 ∧ 1 < xg k ∧ xg k < 7 := fun k hk => ⟨by omega, by omega, by rw [show xg k = 2 by rw [xg_2]; omega]; decide, by rw [show xg k = 2 by rw [xg_2]; omega]; decide⟩
theorem hN2 : ∀ k, (k = 3 ∨ k = 4 ∨ (36 ≤ k ∧ k < 100) ∨ k = 5 ∨ (100 ≤ k ∧ k < 164) ∨ k = 6 ∨ k = 7) → ((1 ≤ k ∧ k < 23) ∨ (36 ≤ k ∧ k < 201)) := fun k hk => by omega
theorem hY2 : ¬ (2 = 3 ∨ 2 = 4 ∨ (36 ≤ 2 ∧ 2 < 100) ∨ 2 = 5 ∨ (100 ≤ 2 ∧ 2 < 164) ∨ 2 = 6 ∨ 2 = 7) := by decide
theorem hX2 : ∀ k, (k = 3 ∨ k = 4 ∨ (36 ≤ k ∧ k < 100) ∨ k = 5 ∨ (100 ≤ k ∧ k < 164) ∨ k = 6 ∨ k = 7) → xg k = 2 := fun k hk => by rw [xg_2]; omega
theorem hW2 : ∀ k, (k = 2 ∨ k = 3 ∨ k = 4 ∨ (36 ≤ k ∧ k < 100) ∨ k = 5 ∨ (100 ≤ k ∧ k < 164) ∨ k = 6 ∨ k = 7) ↔ (k < 201 ∧ xg k = 2) := fun k => by rw [xg_2]; omega
theorem hF3 : ∀ j, j < 8 → defaultValue (tyX1 j) = vp_V [.null, .null, .null, .null, .null, .null, .int 0, .int 0] j := fun j hj => by rcases (show j = 0 ∨ j = 1 ∨ j = 2 ∨ j = 3 ∨ j = 4 ∨ j = 5 ∨ j = 6 ∨ j = 7 by omega) with rfl | rfl | rfl | rfl | rfl | rfl | rfl | rfl <;> rfl
theorem hV3 : ∀ k, (k = 9 ∨ k = 10 ∨ (164 ≤ k ∧ k < 180) ∨ k = 11 ∨ (180 ≤ k ∧ k < 196) ∨ k = 12 ∨ k = 13) → k < 201 ∧ k ≠ 0 ∧ 2 < xg k ∧ xg k < 7 := fun k hk => ⟨by omega, by omega, by rw [show xg k = 3 by rw [xg_3]; omega]; decide, by rw [show xg k = 3 by rw [xg_3]; omega]; decide⟩
theorem hN3 : ∀ k, (k = 9 ∨ k = 10 ∨ (164 ≤ k ∧ k < 180) ∨ k = 11 ∨ (180 ≤ k ∧ k < 196) ∨ k = 12 ∨ k = 13) → ((1 ≤ k ∧ k < 23) ∨ (36 ≤ k ∧ k < 201)) := fun k hk => by omega
theorem hY3 : ¬ (8 = 9 ∨ 8 = 10 ∨ (164 ≤ 8 ∧ 8 < 180) ∨ 8 = 11 ∨ (180 ≤ 8 ∧ 8 < 196) ∨ 8 = 12 ∨ 8 = 13) := by decide
theorem hX3 : ∀ k, (k = 9 ∨ k = 10 ∨ (164 ≤ k ∧ k < 180) ∨ k = 11 ∨ (180 ≤ k ∧ k < 196) ∨ k = 12 ∨ k = 13) → xg k = 3 := fun k hk => by rw [xg_3]; omega
theorem hW3 : ∀ k, (k = 8 ∨ k = 9 ∨ k = 10 ∨ (164 ≤ k ∧ k < 180) ∨ k = 11 ∨ (180 ≤ k ∧ k < 196) ∨ k = 12 ∨ k = 13) ↔ (k < 201 ∧ xg k = 3) := fun k => by rw [xg_3]; omega
theorem hF4 : ∀ j, j < 6 → defaultValue (tyX0 j) = vp_V [.null, .null, .int 0, .null, .null, .int 0] j := fun j hj => by rcases (show j = 0 ∨ j = 1 ∨ j = 2 ∨ j = 3 ∨ j = 4 ∨ j = 5 by omega) with rfl | rfl | rfl | rfl | rfl | rfl <;> rfl
theorem hV4 : ∀ k, (k = 15 ∨ k = 16 ∨ (196 ≤ k ∧ k < 201) ∨ k = 17) → k < 201 ∧ k ≠ 0 ∧ 3 < xg k ∧ xg k < 7 := fun k hk => ⟨by omega, by omega, by rw [show xg k = 4 by rw [xg_4]; omega]; decide, by rw [show xg k = 4 by rw [xg_4]; omega]; decide⟩
theorem hN4 : ∀ k, (k = 15 ∨ k = 16 ∨ (196 ≤ k ∧ k < 201) ∨ k = 17) → ((1 ≤ k ∧ k < 23) ∨ (36 ≤ k ∧ k < 201)) := fun k hk => by omega
theorem hY4 : ¬ (14 = 15 ∨ 14 = 16 ∨ (196 ≤ 14 ∧ 14 < 201) ∨ 14 = 17) := by decide
theorem hX4 : ∀ k, (k = 15 ∨ k = 16 ∨ (196 ≤ k ∧ k < 201) ∨ k = 17) → xg k = 4 := fun k hk => by rw [xg_4]; omega
theorem hW4 : ∀ k, (k = 14 ∨ k = 15 ∨ k = 16 ∨ (196 ≤ k ∧ k < 201) ∨ k = 17) ↔ (k < 201 ∧ xg k = 4) := fun k => by rw [xg_4]; omega
theorem hF5 : ∀ j, j < 2 → defaultValue (tyX2 j) = vp_V [.null, .int 0] j := fun j hj => by rcases (show j = 0 ∨ j = 1 by omega) with rfl | rfl <;> rfl
theorem hV5 : ∀ k, (k = 19) → k < 201 ∧ k ≠ 0 ∧ 4 < xg k ∧ xg k < 7 := fun k hk => ⟨by omega, by omega, by rw [show xg k = 5 by rw [xg_5]; omega]; decide, by rw [show xg k = 5 by rw [xg_5]; omega]; decide⟩
theorem hN5 : ∀ k, (k = 19) → ((1 ≤ k ∧ k < 23) ∨ (36 ≤ k ∧ k < 201)) := fun k hk => by omega
theorem hY5 : ¬ (18 = 19) := by decide
theorem hX5 : ∀ k, (k = 19) → xg k = 5 := fun k hk => by rw [xg_5]; omega
theorem hW5 : ∀ k, (k = 18 ∨ k = 19) ↔ (k < 201 ∧ xg k = 5) := fun k => by rw [xg_5]; omega
theorem hF6 : ∀ j, j < 4 → defaultValue (tyX4 j) = vp_V [.null, .null, .int 0, .int 0] j := fun j hj => by rcases (show j = 0 ∨ j = 1 ∨ j = 2 ∨ j = 3 by omega) with rfl | rfl | rfl | rfl <;> rfl
theorem hV6 : ∀ k, (k = 21 ∨ k = 22) → k < 201 ∧ k ≠ 0 ∧ 5 < xg k ∧ xg k < 7 := fun k hk => ⟨by omega, by omega, by rw [show xg k = 6 by rw [xg_6]; omega]; decide, by rw [show xg k = 6 by rw [xg_6]; omega]; decide⟩
theorem hN6 : ∀ k, (k = 21 ∨ k = 22) → ((1 ≤ k ∧ k < 23) ∨ (36 ≤ k ∧ k < 201)) := fun k hk => by omega
theorem hY6 : ¬ (20 = 21 ∨ 20 = 22) := by decide
theorem hX6 : ∀ k, (k = 21 ∨ k = 22) → xg k = 6 := fun k hk => by rw [xg_6]; omega
theorem hW6 : ∀ k, (k = 20 ∨ k = 21 ∨ k = 22) ↔ (k < 201 ∧ xg k = 6) := fun k => by rw [xg_6]; omega
theorem hZ0 {k : Nat} (h1 : k < 201) (h2 : k ≠ 0) (h4 : xg k < 7) : (1 ≤ k ∧ k < 23) ∨ (36 ≤ k ∧ k < 201) := by
  have h7 := xg_le.mp (show xg k ≤ 6 by omega)
  omega
theorem hZ1 {k : Nat} (h : k < 201 ∧ k ≠ 0 ∧ xg k ≤ 6) : (1 ≤ k ∧ k < 23) ∨ (36 ≤ k ∧ k < 201) := by
  have h7 := xg_le.mp h.2.2
  omega
theorem hZ2 {k : Nat} (_ : k ≠ 0) (h : k < 201 ∧ xg k ≤ 6) : (1 ≤ k ∧ k < 23) ∨ (36 ≤ k ∧ k < 201) := by
  have h7 := xg_le.mp h.2
  omega
theorem hZ3 {k : Nat} (h : (1 ≤ k ∧ k < 23) ∨ (36 ≤ k ∧ k < 201)) : k < 201 ∧ k ≠ 0 ∧ xg k ≤ 6 := ⟨by omega, by omega, xg_le.mpr (by omega)⟩
