/-! heaps' changes; the state between calls -/
def uF (f : Nat → Nat) (k v : Nat) : Nat → Nat := fun j => if j = k then v else f j
theorem wR_items {n ac mo : Nat} {it it' : Nat → Nat} {s u : Nat} (hn : n ≤ 6) (h : ∀ k, k < n → it k = it' k) : wR n ac mo it s u = wR n ac mo it' s u := by
  unfold wR
  split
  · rename_i c
    have : (2:Nat) ^ n ≤ 2 ^ 6 := Nat.pow_le_pow_right (by decide) hn
    exact wW_items (s + 1) s u (by omega) (by omega) (fun k hk => h k (by
      refine Nat.lt_of_not_le fun hnk => ?_
      have : s < 2 ^ k := Nat.lt_of_lt_of_le c (Nat.pow_le_pow_right (by decide) hnk)
      rw [Nat.testBit_lt_two_pow this] at hk
      exact absurd hk (by decide)))
  · rfl
theorem HI.items {q : Nat} {A : xM} {L : xL} {n ac mo : Nat} {it it' : Nat → Nat} {ch : Nat} (h : HI q A L n ac mo it ch) (e : ∀ k, k < n → it k = it' k) : HI q A L n ac mo it' ch := by
  obtain ⟨h1, h2, h3, h4, h5, P, fl, nf, h6, h7⟩ := h
  exact ⟨h1, h2, h3, h4, fun k hk => by rw [← e k hk]; exact h5 k hk, P, fl, nf, h6, fun s u hs hu hc => by rw [h7 s u hs hu hc]; exact wR_items (by omega) e⟩
theorem and_or0 {s a b : Nat} (h : s &&& (a ||| b) = 0) : s &&& a = 0 ∧ s &&& b = 0 := by
  rw [Nat.and_or_distrib_left] at h
  constructor
  · have : s &&& a ≤ (s &&& a) ||| (s &&& b) := Nat.left_le_or
    omega
  · have : s &&& b ≤ (s &&& a) ||| (s &&& b) := Nat.right_le_or
    omega
theorem and_pow0 {s k : Nat} (h : s &&& 2 ^ k = 0) : s.testBit k = false := (fb_bit_nat s k).mp h
theorem HI.pow {q : Nat} (hq : q < 2) {n : Nat} (h : n ≤ 6 - 2 * q) : 2 ^ n ≤ 64 - 48 * q := by
  rcases (show q = 0 ∨ q = 1 by omega) with rfl | rfl
  · exact Nat.le_trans (Nat.pow_le_pow_right (by decide) h) (by decide)
  · exact Nat.le_trans (Nat.pow_le_pow_right (by decide) h) (by decide)
theorem or_lt {q a b : Nat} (hq : q < 2) (ha : a < 64 - 48 * q) (hb : b < 64 - 48 * q) : a ||| b < 64 - 48 * q := by
  rcases (show q = 0 ∨ q = 1 by omega) with rfl | rfl
  · exact Nat.or_lt_two_pow (n := 6) ha hb
  · exact Nat.or_lt_two_pow (n := 4) ha hb
theorem s_place {q : Nat} (hq : q < 2) {A : xM} {L : xL} {n ac mo : Nat} {it : Nat → Nat} {ch : Nat} (H : HI q A L n ac mo it ch) {k v : Nat} (hk : k ≤ n) (hk2 : k < 6 - 2 * q) (hv1 : 1 ≤ v) (hv2 : v ≤ 100) {post : xM → xL → Prop}
    (h : ∀ (A' : xM) (ch' : Nat), HI q A' L (if n < k + 1 then k + 1 else n) ac mo (uF it k v) ch' → HG q A L A' L → post A' L) : v_X1_place q (nI k) (nI v) A L post := by
  obtain ⟨h1, h2, h3, h4, h5, P, fl, nf, h6, h7⟩ := id H
  have hp := HI.pow hq h1
  have hp2 : 2 ^ k < 64 - 48 * q := by
    rcases (show q = 0 ∨ q = 1 by omega) with rfl | rfl
    · exact Nat.lt_of_le_of_lt (Nat.pow_le_pow_right (by decide) (show k ≤ 5 by omega)) (by decide)
    · exact Nat.lt_of_le_of_lt (Nat.pow_le_pow_right (by decide) (show k ≤ 3 by omega)) (by decide)
  unfold v_X1_place
  rw [h2]
  refine ⟨fun c => absurd c (nI_pos (by omega)), fun _ => ?_⟩
  refine pk_lt n k (fun c => absurd c (by omega)) (fun _ => ?_)
  refine pk_lt k (6 - 2 * q) (fun _ => ?_) (fun c => absurd c (by omega))
  have put : v_X1_place_41 q (nI k) (nI v) A L post := by
    unfold v_X1_place_41
    rw [h2]
    intro A1 eA1
    refine ⟨pk_in k _ hk2 rfl (by omega), fun A3 eA3 A4 eA4 => ?_⟩
    rw [nI_clamp (show k < 2 ^ 31 by omega)] at eA3
    have e7 : A3 (2 + 6 * q) 7 = nI ch := by
      rw [eA3, eA1]; unfold xu
      rw [if_neg (by omega), if_neg (by omega)]; exact h3
    rw [e7, w_shl k (by omega), fa_or] at eA4
    have eif : (if nI n < nI k + 1 then nI k + 1 else nI n) = nI (if n < k + 1 then k + 1 else n) := by
      rw [nI_1]
      by_cases c : n < k + 1
      · rw [if_pos c, if_pos (nI_lt c (by omega))]
      · rw [if_neg c, if_neg (nI_nlt (by omega) (by omega))]
    rw [eif] at eA1
    have fr : ∀ a b, ¬ (a = 2 + 6 * q ∧ (b = 6 ∨ b = 7)) → ¬ (a = 3 + 6 * q ∧ b = k) → A4 a b = A a b := fun a b c1 c2 => by
      rw [eA4, eA3, eA1]; unfold xu
      rw [if_neg (by omega), if_neg (by omega), if_neg (by omega)]
    refine h A4 (ch ||| 2 ^ k) ⟨by split <;> omega, ?_, by rw [eA4]; simp [xu], or_lt hq h4 hp2, fun j hj => ?_, P, fl, nf, h6.mem (fun a b hab => fr a b (by omega) (by omega)) (fun _ _ _ => rfl), fun s u hs hu hc => ?_⟩ ⟨fun a b hab => fr a b (fun e => hab (by unfold hT; omega)) (fun e => hab (by unfold hT; omega)), fun _ _ _ => rfl⟩
    · rw [eA4, eA3, eA1]; unfold xu
      rw [if_neg (by omega), if_neg (by omega), if_pos ⟨rfl, rfl⟩]
    · unfold uF
      by_cases e : j = k
      · subst e
        rw [if_pos rfl]
        rw [eA4, eA3]; unfold xu
        rw [if_neg (by omega), if_pos ⟨rfl, rfl⟩]
        exact ⟨rfl, hv1, hv2⟩
      · rw [if_neg e, fr _ _ (by omega) (by omega)]
        exact h5 j (by split at hj <;> omega)
    · have hc2 := and_or0 hc
      have hb := and_pow0 hc2.2
      rw [h7 s u hs hu hc2.1]
      unfold wR
      have ew : wW ac mo it s u = wW ac mo (uF it k v) s u := wW_items (s + 1) s u (by omega) (by omega) (fun j hj => by
        unfold uF
        rw [if_neg (fun e => by rw [e, hb] at hj; exact absurd hj (by decide))])
      by_cases c : n < k + 1
      · rw [if_pos c]
        have hkn : k = n := by omega
        subst hkn
        by_cases c2 : s < 2 ^ k
        · rw [if_pos c2, if_pos (Nat.lt_of_lt_of_le c2 (Nat.pow_le_pow_right (by decide) (by omega))), ew]
        · rw [if_neg c2]
          split
          · rename_i c3
            obtain ⟨j, hj1, hj2⟩ := Nat.exists_ge_and_testBit_of_ge_two_pow (Nat.le_of_not_lt c2)
            have : j < k + 1 := by
              refine Nat.lt_of_not_le fun hnk => ?_
              have : s < 2 ^ j := Nat.lt_of_lt_of_le c3 (Nat.pow_le_pow_right (by decide) hnk)
              rw [Nat.testBit_lt_two_pow this] at hj2
              exact absurd hj2 (by decide)
            have : j = k := by omega
            rw [this, hb] at hj2
            exact absurd hj2 (by decide)
          · rfl
      · rw [if_neg c, ew]
  refine pk_le n k (fun _ => put) (fun c => ⟨pk_in k _ hk2 rfl (by omega), ?_⟩)
  rw [nI_clamp (show k < 2 ^ 31 by omega), (h5 k c).1]
  refine ⟨fun _ => put, fun c2 => ?_⟩
  have hik := h5 k c
  have e : it k = v := (nI_eq (by omega) (by omega)).mp c2
  refine h A ch ?_ HG.rf
  rw [if_neg (by omega)]
  refine H.items fun j hj => ?_
  unfold uF
  split
  · rename_i e2; rw [e2, e]
  · rfl
theorem s_shorten {q : Nat} (hq : q < 2) {A : xM} {L : xL} {n ac mo : Nat} {it : Nat → Nat} {ch : Nat} (H : HI q A L n ac mo it ch) {m : Nat} (hm : m ≤ n) {post : xM → xL → Prop}
    (h : ∀ (A' : xM) (ch' : Nat), HI q A' L m ac mo it ch' → HG q A L A' L → post A' L) : v_X1_shorten q (nI m) A L post := by
  obtain ⟨h1, h2, h3, h4, h5, P, fl, nf, h6, h7⟩ := id H
  have hp := HI.pow hq h1
  unfold v_X1_shorten
  refine pk_loop (σ := xM) (fun f i s => v_X1_shorten_2 q (nI m) post f (nI i) s L)
    (fun i s => m ≤ i ∧ ∃ ch', s (2 + 6 * q) 7 = nI ch' ∧ ch' < 64 - 48 * q ∧ (∀ a b, ¬ (a = 2 + 6 * q ∧ b = 7) → s a b = A a b) ∧ ∀ t, t &&& ch' = 0 → t &&& ch = 0 ∧ ∀ j, m ≤ j → j < i → t.testBit j = false) n m A hm
    ⟨Nat.le_refl _, ch, h3, h4, fun _ _ _ => rfl, fun t ht => ⟨ht, fun j a b => by omega⟩⟩ (fun f s hI => ?_) (fun f i s hi hI kk => ?_)
  · obtain ⟨-, ch', i1, i2, i3, i4⟩ := hI
    unfold v_X1_shorten_2
    rw [i3 _ _ (by omega), h2]
    refine pk_le n n (fun _ A2 eA2 => ?_) (fun c => absurd c (by omega))
    have eif : (if nI m < nI n then nI m else nI n) = nI m := by
      by_cases c : m < n
      · rw [if_pos (nI_lt c (by omega))]
      · rw [if_neg (nI_nlt (by omega) (by omega)), show m = n by omega]
    rw [eif] at eA2
    have fr : ∀ a b, ¬ (a = 2 + 6 * q ∧ (b = 6 ∨ b = 7)) → A2 a b = A a b := fun a b c1 => by
      rw [eA2]; unfold xu
      rw [if_neg (by omega)]
      exact i3 a b (by omega)
    refine h A2 ch' ⟨by omega, by rw [eA2]; simp [xu], ?_, i2, fun j hj => by rw [fr _ _ (by omega)]; exact h5 j (by omega), P, fl, nf, h6.mem (fun a b hab => fr a b (by omega)) (fun _ _ _ => rfl), fun s u hs hu hc => ?_⟩ ⟨fun a b hab => fr a b (fun e => hab (by unfold hT; omega)), fun _ _ _ => rfl⟩
    · rw [eA2]; unfold xu
      rw [if_neg (by omega)]; exact i1
    · obtain ⟨j1, j2⟩ := i4 s hc
      rw [h7 s u hs hu j1]
      unfold wR
      by_cases c : s < 2 ^ m
      · rw [if_pos c, if_pos (Nat.lt_of_lt_of_le c (Nat.pow_le_pow_right (by decide) hm))]
      · rw [if_neg c]
        split
        · rename_i c3
          obtain ⟨j, hj1, hj2⟩ := Nat.exists_ge_and_testBit_of_ge_two_pow (Nat.le_of_not_lt c)
          have : j < n := by
            refine Nat.lt_of_not_le fun hnk => ?_
            have : s < 2 ^ j := Nat.lt_of_lt_of_le c3 (Nat.pow_le_pow_right (by decide) hnk)
            rw [Nat.testBit_lt_two_pow this] at hj2
            exact absurd hj2 (by decide)
          rw [j2 j hj1 this] at hj2
          exact absurd hj2 (by decide)
        · rfl
  · obtain ⟨hmi, ch', i1, i2, i3, i4⟩ := hI
    unfold v_X1_shorten_2
    rw [i3 _ _ (by omega), h2, i1]
    refine pk_le n i (fun c => absurd c (by omega)) (fun _ A3 eA3 x2 ex2 => ?_)
    have : x2 = nI (i + 1) := by rw [ex2]; exact nI_1 i
    subst this
    rw [w_shl i (by omega), fa_or] at eA3
    have hp2 : 2 ^ i < 64 - 48 * q := by
      have : 2 ^ (i + 1) ≤ 2 ^ n := Nat.pow_le_pow_right (by decide) hi
      have : 2 ^ (i + 1) = 2 * 2 ^ i := by rw [Nat.pow_succ]; omega
      have := Nat.two_pow_pos i
      omega
    refine kk A3 ⟨by omega, ch' ||| 2 ^ i, by rw [eA3]; simp [xu], or_lt hq i2 hp2, fun a b hab => by rw [eA3]; unfold xu; rw [if_neg hab]; exact i3 a b hab, fun t ht => ?_⟩
    have h8 := and_or0 ht
    obtain ⟨j1, j2⟩ := i4 t h8.1
    refine ⟨j1, fun j a b => ?_⟩
    by_cases e : j = i
    · subst e; exact and_pow0 h8.2
    · exact j2 j a (by omega)
theorem s_every {q : Nat} (hq : q < 2) {A : xM} {L : xL} {n ac mo ac' mo' : Nat} {it : Nat → Nat} {ch : Nat} (H : HI q A L n ac mo it ch) {post : xM → xL → Prop}
    (h : ∀ (A' : xM) (ch' : Nat), HI q A' L n ac' mo' it ch' → HG q A L A' L → post A' L) : v_X1_changeEverySet q A L post := by
  obtain ⟨h1, h2, h3, h4, h5, P, fl, nf, h6, h7⟩ := id H
  unfold v_X1_changeEverySet
  intro A1 eA1
  have e : ((1 : Int32) <<< (nI (6 - 2 * q) &&& 31)) - 1 = nI (63 - 48 * q) := by
    rcases (show q = 0 ∨ q = 1 by omega) with rfl | rfl <;> decide +kernel
  rw [e] at eA1
  have fr : ∀ a b, ¬ (a = 2 + 6 * q ∧ b = 7) → A1 a b = A a b := fun a b c1 => by
    rw [eA1]; unfold xu
    rw [if_neg c1]
  refine h A1 (63 - 48 * q) ⟨h1, by rw [fr _ _ (by omega)]; exact h2, by rw [eA1]; simp [xu], by omega, fun j hj => by rw [fr _ _ (by omega)]; exact h5 j hj, P, fl, nf, h6.mem (fun a b hab => fr a b (by omega)) (fun _ _ _ => rfl), fun s u hs hu hc => ?_⟩ ⟨fun a b hab => fr a b (fun e => hab (by unfold hT; omega)), fun _ _ _ => rfl⟩
  have hs0 : s = 0 := by
    have f0 : ∀ s, s < 64 → s &&& 63 = 0 → s = 0 := by decide +kernel
    have f1 : ∀ s, s < 16 → s &&& 15 = 0 → s = 0 := by decide +kernel
    rcases (show q = 0 ∨ q = 1 by omega) with rfl | rfl
    · exact f0 s hs hc
    · exact f1 s hs hc
  subst hs0
  rw [h7 0 u hs hu (Nat.zero_and _), wR_0, wR_0]
/-- the reference's heap -/
def RH (A : xM) (L : xL) (n ac mo : Nat) (it : Nat → Nat) : Prop := A 23 13 = 0 ∨ (A 23 13 = 1 ∧ A 23 9 = nI n ∧ RV n ac mo it L)
theorem r_heap {A : xM} {L : xL} {n ac mo : Nat} {it : Nat → Nat} (hn : n ≤ 6) (h0 : A 23 0 = nI n) (hac : A 23 2 = nI ac) (h16 : ac < 16) (hmo : A 23 3 = nI mo) (hm : mo ≤ 3000) (hit : ∀ k, k < n → A 24 k = nI (it k) ∧ 1 ≤ it k ∧ it k ≤ 100) (hH : RH A L n ac mo it) {post : xM → xL → Prop}
    (k : ∀ A' L', (∀ a b, a ≠ 27 → a ≠ 29 → a ≠ 30 → ¬ (a = 23 ∧ (b = 13 ∨ b = 9)) → A' a b = A a b) → (∀ a b, a ≠ 28 → L' a b = L a b) → A' 23 13 = 1 → A' 23 9 = nI n → RV n ac mo it L' → post A' L') : v_X6_heap A L post := by
  unfold v_X6_heap
  rcases hH with hH | ⟨hH, hH2, hH3⟩
  · refine ⟨fun c => absurd hH c, fun _ A2 eA2 => ?_⟩
    rw [h0] at eA2
    refine pk_loop (σ := xM) (fun f i s => v_X6_heap_17 post f (nI i) s L)
      (fun i s => (∀ a b, a ≠ 27 → ¬ (a = 23 ∧ b = 9) → s a b = A a b) ∧ s 23 9 = nI n ∧ ∀ j, j < i → s 27 j = nI (it j)) n 0 A2 (Nat.zero_le _) ⟨fun a b h1 h2 => by rw [eA2]; unfold xu; rw [if_neg h2], by rw [eA2]; simp [xu], fun j hj => by omega⟩ (fun f s hI => ?_) (fun f i s hi hI kk => ?_)
    · obtain ⟨i1, i2, i3⟩ := hI
      unfold v_X6_heap_17
      rw [i1 _ _ (by decide) (by decide), h0]
      refine pk_le n n (fun _ => ?_) (fun c => absurd c (by omega))
      refine r_fill hn i2 (by rw [i1 _ _ (by decide) (by decide)]; exact hac) h16 (by rw [i1 _ _ (by decide) (by decide)]; exact hmo) hm (fun j hj => ⟨i3 j hj, (hit j hj).2⟩) (fun A' L' g1 g2 g3 g4 A4 eA4 => ?_)
      refine k A4 L' (fun a b h1 h2 h3 h4 => ?_) g3 (by rw [eA4]; simp [xu]) ?_ g4
      · rw [eA4]; unfold xu
        rw [if_neg (by omega), g1 a b h2 h3 (by omega), i1 a b h1 (by omega)]
      · rw [eA4]; unfold xu
        rw [if_neg (by omega), g1 _ _ (by decide) (by decide) (by decide)]; exact i2
    · obtain ⟨i1, i2, i3⟩ := hI
      unfold v_X6_heap_17
      rw [i1 _ _ (by decide) (by decide), h0]
      refine pk_le n i (fun c => absurd c (by omega)) (fun _ => ⟨pk_in i 6 (by omega), fun A6 eA6 x1 ex1 => ?_⟩)
      have : x1 = nI (i + 1) := by rw [ex1]; exact nI_1 i
      subst this
      rw [nI_clamp (show i < 2 ^ 31 by omega), i1 _ _ (by decide) (by omega), (hit i hi).1] at eA6
      refine kk A6 ⟨fun a b h1 h2 => by rw [eA6]; unfold xu; rw [if_neg (by omega)]; exact i1 a b h1 h2, by rw [eA6]; unfold xu; rw [if_neg (by omega)]; exact i2, fun j hj => ?_⟩
      rw [eA6]; unfold xu
      by_cases e : j = i
      · subst e; rw [if_pos ⟨rfl, rfl⟩]
      · rw [if_neg (by omega)]; exact i3 j (by omega)
  · exact ⟨fun _ => k A L (fun _ _ _ _ _ _ => rfl) (fun _ _ _ => rfl) hH hH2 hH3, fun c => absurd (hH.symm.trans c) (by decide)⟩
