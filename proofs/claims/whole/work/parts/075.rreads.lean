/-! what a heap tells: the reference -/
theorem aS_R {n ac mo : Nat} {it : Nat → Nat} {S v : Nat} (h : 2 ^ n ≤ S) : aS (wR n ac mo it) S v = aS (wR n ac mo it) (2 ^ n) v := by
  unfold aS
  obtain ⟨d, rfl⟩ : ∃ d, S = 2 ^ n + d := ⟨S - 2 ^ n, by omega⟩
  rw [fb_sm_split]
  have : fb_sm (fun k => wR n ac mo it (2 ^ n + k) v) d = 0 := sm_zero fun k _ => by unfold wR; rw [if_neg (by omega)]
  rw [this, Nat.add_zero]
/-- the reference's rows, open -/
def RR (P : Nat → Nat → Nat) (n : Nat) (A : xM) (L : xL) : Prop := n ≤ 6 ∧ A 23 9 = nI n ∧ P 0 = (fun _ => 0) ∧ (∀ s v, P s v ≤ 30965760) ∧ ∀ s v, s < 2 ^ n → 1 ≤ v → v < 3001 → L 28 (3001 * s + v) = lN (P s v)
theorem wR_00 {n ac mo : Nat} {it : Nat → Nat} : wR n ac mo it 0 = fun _ => 0 := funext fun _ => wR_0
theorem RV.rr {n ac mo : Nat} {it : Nat → Nat} {A : xM} {L : xL} (h : RV n ac mo it L) (hn : n ≤ 6) (h9 : A 23 9 = nI n) : RR (wR n ac mo it) n A L := ⟨hn, h9, wR_00, fun s v => wR_le hn, fun s v hs h1 h2 => by
  unfold wR
  rw [if_pos hs]
  exact h s v hs h1 h2⟩
section RD
variable {A : xM} {L : xL} {P : Nat → Nat → Nat} {n : Nat}
theorem RR.pow (h : RR P n A L) : 2 ^ n ≤ 64 := Nat.le_trans (Nat.pow_le_pow_right (by decide) h.1) (by decide)
theorem r_all (h : RR P n A L) {v : Nat} (h1 : 1 ≤ v) (h2 : v < 3001) {post : Int64 → Prop} (k : post (lN (aS P (2 ^ n) v))) : v_X6_allOf (nI v) A L post := by
  obtain ⟨hn, h9, hz, hb, hR⟩ := id h
  have hp := h.pow
  unfold v_X6_allOf
  refine pk_loop (σ := Int64) (fun f i s => v_X6_allOf_5 (nI v) A L post f s (nI i)) (fun i s => 1 ≤ i ∧ s = lN (fb_sm (fun s => P s v) i)) (2 ^ n) 1 0 Nat.one_le_two_pow ⟨Nat.le_refl _, by
    show _ = lN (0 + P 0 v)
    rw [hz]; rfl⟩ (fun f s hI => ?_) (fun f i s hi hI kk => ?_)
  · unfold v_X6_allOf_5
    rw [hI.2, h9, w_shl n (by omega)]
    exact pk_le (2 ^ n) (2 ^ n) (fun _ => k) (fun c => absurd c (by omega))
  · unfold v_X6_allOf_5
    obtain ⟨hi1, hI⟩ := hI
    rw [h9, w_shl n (by omega)]
    refine pk_le (2 ^ n) i (fun c => absurd c (by omega)) (fun _ => ?_)
    rw [ix_nI, nI_clamp (show 3001 * i + v < 2 ^ 31 by omega), hR i v hi h1 h2]
    refine ⟨pk_in (3001 * i + v) _ (by omega), fun y2 e2 x4 e4 => ?_⟩
    have : x4 = nI (i + 1) := by rw [e4]; exact nI_1 i
    subst this
    refine kk y2 ⟨by omega, ?_⟩
    rw [e2, hI, lN_add]
    rfl
theorem RR.aS_le (h : RR P n A L) {v : Nat} : aS P (2 ^ n) v < 2 ^ 62 := by
  have h1 := fb_sm_bound (f := fun s => P s v) (c := 30965760) (n := 2 ^ n) (fun s _ => h.2.2.2.1 s v)
  have := h.pow
  unfold aS
  exact Nat.lt_of_le_of_lt h1 (Nat.lt_of_le_of_lt (Nat.mul_le_mul_right _ this) (by decide))
theorem r_reach (h : RR P n A L) {v : Nat} (h1 : 1 ≤ v) (h2 : v < 3001) {post : Int32 → Prop} (k : post (bI (decide (0 < aS P (2 ^ n) v)))) : v_X6_isReached (nI v) A L post := by
  unfold v_X6_isReached
  refine r_all h h1 h2 ?_
  rw [lpos h.aS_le]
  refine ⟨fun c => ?_, fun c => ?_⟩
  · rw [decide_eq_false (by omega)] at k; exact k
  · rw [decide_eq_true (by omega)] at k; exact k
theorem r_row (h : RR P n A L) {s v : Nat} (hs : s < 2 ^ n) (h1 : 1 ≤ v) (h2 : v < 3001) : vp_in ((3001 : Int32) * nI s + nI v) 192064 ∧ L 28 ((3001 : Int32) * nI s + nI v).toNatClampNeg = lN (P s v) := by
  obtain ⟨hn, h9, hz, hb, hR⟩ := id h
  have hp := h.pow
  rw [ix_nI, nI_clamp (show 3001 * s + v < 2 ^ 31 by omega), hR s v hs h1 h2]
  exact ⟨pk_in (3001 * s + v) _ (by omega), rfl⟩
theorem RR.lp (h : RR P n A L) (s v : Nat) : lg_cmp (lN (P s v)) 0 ≤ 0 ↔ P s v = 0 := lpos (Nat.lt_of_le_of_lt (h.2.2.2.1 s v) (by decide))
theorem r_has (h : RR P n A L) {s v : Nat} (hs : s < 2 ^ n) (h1 : 1 ≤ v) (h2 : v < 3001) {post : Int32 → Prop} (k : post (bI (hS P (2 ^ n) s v))) : v_X6_has (nI s) (nI v) A L post := by
  have hp := h.pow
  have row := r_row h hs h1 h2
  unfold v_X6_has
  unfold hS at k
  refine ⟨fun c => ?_, fun c => ?_⟩
  · have hs0 : s ≠ 0 := fun e => c (by rw [e]; rfl)
    rw [if_neg hs0] at k
    rw [row.2, h.lp]
    refine ⟨row.1, fun c => ?_, fun c => ?_⟩
    · rw [decide_eq_false (by omega)] at k; exact k
    · rw [decide_eq_true (by omega)] at k; exact k
  · have hs0 : s = 0 := (nI_eq (a := s) (b := 0) (by omega) (by omega)).mp c
    rw [if_pos hs0] at k
    refine r_reach h h1 h2 ⟨?_, k⟩
    unfold bI
    split
    · exact Or.inr rfl
    · exact Or.inl rfl
theorem r_numbers (h : RR P n A L) {s : Nat} (hs : s < 2 ^ n) {post : Int32 → xM → xL → Prop} (k : post (nI (cN (hS P (2 ^ n) s) 3001)) A L) : ∃ k9, v_X6_reached_24 (nI s) post k9 (0 : Int32) (1 : Int32) A L := by
  refine pk_loop (σ := Int32) (fun f i t => v_X6_reached_24 (nI s) post f t (nI i) A L) (fun i t => 1 ≤ i ∧ t = nI (cN (hS P (2 ^ n) s) i)) 3001 1 0 (by omega) ⟨Nat.le_refl _, rfl⟩ (fun f t hI => ?_) (fun f i t hi hI kk => ?_)
  · unfold v_X6_reached_24
    rw [hI.2]
    exact pk_lt 3000 3001 (fun _ => k) (fun c => absurd c (by omega))
  · unfold v_X6_reached_24
    obtain ⟨hi1, hI⟩ := hI
    refine pk_lt 3000 i (fun c => absurd c (by omega)) (fun _ => r_has h hs hi1 hi ?_)
    have nxt : ∀ x3 : Int32, x3 = nI i + 1 → x3 = nI (i + 1) := fun x3 ex => by rw [ex]; exact nI_1 i
    have st : cN (hS P (2 ^ n) s) (i + 1) = cN (hS P (2 ^ n) s) i + (if 1 ≤ i ∧ hS P (2 ^ n) s i = true then 1 else 0) := rfl
    refine ⟨fun c x2 e2 x3 e3 => ?_, fun c x2 e2 x3 e3 => ?_⟩
    · rw [nxt x3 e3]
      refine kk x2 ⟨by omega, ?_⟩
      rw [st, bI_0.1 c, e2, hI]
      simp
    · rw [nxt x3 e3]
      refine kk x2 ⟨by omega, ?_⟩
      rw [st, bI_0.2 c, e2, hI, nI_1, if_pos ⟨hi1, rfl⟩]
theorem r_number (h : RR P n A L) {s : Nat} {x : Int32} (hs : s < 2 ^ n) {post : Int32 → xM → xL → Prop} (k : post (fF (pV (hS P (2 ^ n) s) x) (-1)) A L) : ∃ k9, v_X6_value_25 (nI s) x post k9 (0 : Int32) (1 : Int32) A L := by
  refine pk_loop (σ := Int32) (fun f i t => v_X6_value_25 (nI s) x post f t (nI i) A L) (fun i t => 1 ≤ i ∧ t = nI (cN (hS P (2 ^ n) s) i) ∧ ∀ j, j < i → pV (hS P (2 ^ n) s) x j = false) 3001 1 0 (by omega) ⟨Nat.le_refl _, rfl, fun j hj => by
    rw [show j = 0 by omega]; rfl⟩ (fun f t hI => ?_) (fun f i t hi hI kk => ?_)
  · unfold v_X6_value_25
    rw [fF_no hI.2.2] at k
    exact pk_lt 3000 3001 (fun _ => k) (fun c => absurd c (by omega))
  · unfold v_X6_value_25
    obtain ⟨hi1, hI, hI2⟩ := hI
    refine pk_lt 3000 i (fun c => absurd c (by omega)) (fun _ => r_has h hs hi1 hi ?_)
    have nxt : ∀ x3 : Int32, x3 = nI i + 1 → x3 = nI (i + 1) := fun x3 ex => by rw [ex]; exact nI_1 i
    have st : cN (hS P (2 ^ n) s) (i + 1) = cN (hS P (2 ^ n) s) i + (if 1 ≤ i ∧ hS P (2 ^ n) s i = true then 1 else 0) := rfl
    have more : pV (hS P (2 ^ n) s) x i = false → ∀ j, j < i + 1 → pV (hS P (2 ^ n) s) x j = false := fun h0 j hj => by
      by_cases e : j = i
      · rw [e]; exact h0
      · exact hI2 j (by omega)
    refine ⟨fun c x3 e3 => ?_, fun c => ⟨fun c2 x2 e2 x3 e3 => ?_, fun c2 => ?_⟩⟩
    · rw [nxt x3 e3]
      refine kk t ⟨by omega, ?_, more ?_⟩
      · rw [st, bI_0.1 c, hI]; simp
      · unfold pV; rw [bI_0.1 c]; simp
    · rw [nxt x3 e3]
      refine kk x2 ⟨by omega, ?_, more ?_⟩
      · rw [st, bI_0.2 c, e2, hI, nI_1, if_pos ⟨hi1, rfl⟩]
      · unfold pV; rw [← hI, decide_eq_false c2]; simp
    · rw [fF_yes hi hI2 (by unfold pV; rw [← hI, bI_0.2 c, decide_eq_true c2, decide_eq_true hi1]; rfl)] at k
      exact k
theorem r_least (h : RR P n A L) {post : Int32 → xM → xL → Prop} (k : post (fF (pM fun v => decide (0 < aS P (2 ^ n) v)) 3001) A L) : ∃ k9, v_X6_missing_6 post k9 (1 : Int32) A L := by
  refine pk_loop (σ := Unit) (fun f i t => v_X6_missing_6 post f (nI i) A L) (fun i t => 1 ≤ i ∧ ∀ j, j < i → pM (fun v => decide (0 < aS P (2 ^ n) v)) j = false) 3001 1 () (by omega) ⟨Nat.le_refl _, fun j hj => by
    rw [show j = 0 by omega]; rfl⟩ (fun f t hI => ?_) (fun f i t hi hI kk => ?_)
  · unfold v_X6_missing_6
    rw [fF_no hI.2] at k
    exact pk_lt 3000 3001 (fun _ => k) (fun c => absurd c (by omega))
  · unfold v_X6_missing_6
    obtain ⟨hi1, hI2⟩ := hI
    refine pk_lt 3000 i (fun c => absurd c (by omega)) (fun _ => r_reach h hi1 hi ?_)
    refine ⟨fun c => ?_, fun c x3 e3 => ?_⟩
    · rw [fF_yes hi hI2 (by unfold pM; dsimp only; rw [bI_0.1 c, decide_eq_true hi1]; rfl)] at k
      exact k
    · have : x3 = nI (i + 1) := by rw [e3]; exact nI_1 i
      subst this
      refine kk () ⟨by omega, fun j hj => ?_⟩
      by_cases e : j = i
      · subst e
        unfold pM
        dsimp only
        rw [bI_0.2 c]; simp
      · exact hI2 j (by omega)
theorem r_first (h : RR P n A L) {v : Nat} (h1 : 1 ≤ v) (h2 : v < 3001) {post : Int32 → Prop} (k : post (if bst (fun s => decide (0 < P s v)) (2 ^ n) = 0 then -1 else nI (bst (fun s => decide (0 < P s v)) (2 ^ n)))) : v_X6_firstSet (nI v) A L post := by
  obtain ⟨hn, h9, hz, hb, hR⟩ := id h
  have hpw := h.pow
  unfold v_X6_firstSet
  generalize hp9 : (fun s => decide (0 < P s v)) = p at k
  have hp : ∀ s, p s = decide (0 < P s v) := fun s => by rw [← hp9]
  refine pk_loop (σ := Int32) (fun f i t => v_X6_firstSet_4 (nI v) A L post f t (nI i)) (fun i t => 1 ≤ i ∧ t = (if bst p i = 0 then -1 else nI (bst p i))) (2 ^ n) 1 (-1) Nat.one_le_two_pow ⟨Nat.le_refl _, by rw [if_pos (by simp [bst])]⟩ (fun f t hI => ?_) (fun f i t hi hI kk => ?_)
  · unfold v_X6_firstSet_4
    rw [hI.2, h9, w_shl n (by omega)]
    exact pk_le (2 ^ n) (2 ^ n) (fun _ => k) (fun c => absurd c (by omega))
  · unfold v_X6_firstSet_4
    obtain ⟨hi1, hI⟩ := hI
    rw [h9, w_shl n (by omega)]
    have row := r_row h hi h1 h2
    rw [row.2, h.lp]
    have nxt : ∀ x3 : Int32, x3 = nI i + 1 → x3 = nI (i + 1) := fun x3 ex => by rw [ex]; exact nI_1 i
    have st : bst p (i + 1) = if 1 ≤ i ∧ p i = true ∧ (bst p i = 0 ∨ pb i < pb (bst p i)) then i else bst p i := rfl
    have keep : ¬ (1 ≤ i ∧ p i = true ∧ (bst p i = 0 ∨ pb i < pb (bst p i))) → ∀ x3 : Int32, x3 = nI i + 1 → v_X6_firstSet_4 (nI v) A L post f t x3 := fun hn x3 e3 => by
      rw [nxt x3 e3]
      refine kk t ⟨by omega, ?_⟩
      rw [st, if_neg hn]; exact hI
    have take : (1 ≤ i ∧ p i = true ∧ (bst p i = 0 ∨ pb i < pb (bst p i))) → ∀ x3 : Int32, x3 = nI i + 1 → v_X6_firstSet_4 (nI v) A L post f (nI i) x3 := fun hc x3 e3 => by
      rw [nxt x3 e3]
      refine kk (nI i) ⟨by omega, ?_⟩
      rw [st, if_pos hc, if_neg (by omega)]
    have pbi := pb_64 i (by omega)
    have lb : bst p i < 64 := by rcases bst_lt p i with e | e <;> omega
    have pbb := pb_64 _ lb
    refine pk_le (2 ^ n) i (fun c => absurd c (by omega)) (fun _ => ⟨row.1, fun c => keep fun hn => ?_, fun c => ?_⟩)
    · have := hn.2.1
      rw [hp, c] at this
      exact absurd this (by decide)
    · have hpi : p i = true := by rw [hp]; exact decide_eq_true (by omega)
      refine ⟨fun c2 => take ⟨hi1, hpi, ?_⟩, fun c2 => ?_⟩
      · rw [hI] at c2
        by_cases e : bst p i = 0
        · exact Or.inl e
        · rw [if_neg e] at c2
          exact absurd c2 (nI_pos (by omega))
      · have hb0 : bst p i ≠ 0 := fun e => c2 (by rw [hI, if_pos e]; decide)
        have ht : t = nI (bst p i) := by rw [hI, if_neg hb0]
        refine s_bits (by omega) ?_
        rw [ht]
        refine s_bits (by omega) ?_
        refine pk_le (pb (bst p i)) (pb i) (fun c3 => ?_) (fun c3 => take ⟨hi1, hpi, Or.inr c3⟩)
        have := keep (fun hn => by rcases hn.2.2 with e | e <;> omega)
        rw [ht] at this
        exact this
theorem r_near (h : RR P n A L) {v : Nat} (h1 : 1 ≤ v) (h2 : v < 3001) {post : Int32 → Prop} (k : ∀ r, NR (fun u => decide (0 < aS P (2 ^ n) u)) v r → post r) : v_X6_nearest (nI v) A L post := by
  unfold v_X6_nearest
  generalize hp9 : (fun u => decide (0 < aS P (2 ^ n) u)) = p at k
  have hp : ∀ u, p u = decide (0 < aS P (2 ^ n) u) := fun u => by rw [← hp9]
  refine pk_loop (σ := Int32 × Int32) (fun f i t => v_X6_nearest_7 (nI v) A L post f t.1 t.2 (nI i))
    (fun i t => 1 ≤ i ∧ ((t.1 = -1 ∧ ∀ u, 1 ≤ u → u < i → p u = false) ∨ ∃ b, t.1 = nI b ∧ t.2 = nI (dst v b) ∧ 1 ≤ b ∧ b < i ∧ p b = true ∧ ∀ u, 1 ≤ u → u < i → p u = true → dst v b ≤ dst v u ∧ (dst v u = dst v b → b ≤ u))) 3001 1 (-1, 0) (by omega) ⟨Nat.le_refl _, Or.inl ⟨rfl, fun u a b => by omega⟩⟩ (fun f t hI => ?_) (fun f i t hi hI kk => ?_)
  · unfold v_X6_nearest_7
    refine pk_lt 3000 3001 (fun _ => k _ ?_) (fun c => absurd c (by omega))
    rcases hI.2 with hI | ⟨b, e1, e2, e3⟩
    · exact Or.inl hI
    · exact Or.inr ⟨b, e1, e3⟩
  · unfold v_X6_nearest_7
    obtain ⟨hi1, hI⟩ := hI
    refine pk_lt 3000 i (fun c => absurd c (by omega)) (fun _ => ?_)
    have nxt : ∀ x3 : Int32, x3 = nI i + 1 → x3 = nI (i + 1) := fun x3 ex => by rw [ex]; exact nI_1 i
    have core : v_X6_nearest_32 (nI v) t.1 t.2 (nI i) (nI (dst v i)) A L (fun x2 x3 x4 => v_X6_nearest_7 (nI v) A L post f x2 x3 x4) post := by
      unfold v_X6_nearest_32
      refine r_reach h hi1 hi ⟨fun c x4 e4 => ?_, fun c => ?_⟩
      · have c : p i = false := by rw [hp]; exact bI_0.1 c
        rw [nxt x4 e4]
        refine kk t ⟨by omega, ?_⟩
        rcases hI with ⟨e, g⟩ | ⟨b, e1, e2, e3, e4, e5, e6⟩
        · exact Or.inl ⟨e, fun u a b => by
            by_cases e : u = i
            · rw [e]; exact c
            · exact g u a (by omega)⟩
        · exact Or.inr ⟨b, e1, e2, e3, by omega, e5, fun u a b hu => by
            by_cases e : u = i
            · rw [e, c] at hu; exact absurd hu (by decide)
            · exact e6 u a (by omega) hu⟩
      · have c : p i = true := by rw [hp]; exact bI_0.2 c
        have take : (∀ u, 1 ≤ u → u < i → p u = true → dst v i < dst v u) → v_X6_nearest_53 (nI v) (nI i) (nI (dst v i)) A L (fun x2 x3 x4 => v_X6_nearest_7 (nI v) A L post f x2 x3 x4) post := fun g => by
          unfold v_X6_nearest_53
          intro x4 e4
          rw [nxt x4 e4]
          refine kk (nI i, nI (dst v i)) ⟨by omega, Or.inr ⟨i, rfl, rfl, hi1, by omega, c, fun u a b hu => ?_⟩⟩
          by_cases e : u = i
          · rw [e]; exact ⟨Nat.le_refl _, fun _ => Nat.le_refl _⟩
          · have := g u a (by omega) hu
            omega
        rcases hI with ⟨e, g⟩ | ⟨b, e1, e2, e3, e4, e5, e6⟩
        · rw [e]
          refine ⟨fun _ => take fun u a b hu => ?_, fun c2 => absurd (by decide) c2⟩
          rw [g u a b] at hu; exact absurd hu (by decide)
        · rw [e1, e2]
          have d1 : dst v b < 3001 := by unfold dst; split <;> omega
          have d2 : dst v i < 3001 := by unfold dst; split <;> omega
          refine ⟨fun c2 => absurd c2 (nI_pos (by omega)), fun _ => pk_le (dst v b) (dst v i) (fun c3 x4 e4 => ?_) (fun c3 => take fun u a b hu => ?_)⟩
          · rw [nxt x4 e4, ← e1, ← e2]
            refine kk t ⟨by omega, Or.inr ⟨b, e1, e2, e3, by omega, e5, fun u a b2 hu => ?_⟩⟩
            by_cases e : u = i
            · rw [e]; exact ⟨c3, fun _ => by omega⟩
            · exact e6 u a (by omega) hu
          · have := (e6 u a b hu).1
            omega
    refine pk_le i v (fun c => ?_) (fun c => ?_)
    · rw [pk_sub c]
      have : dst v i = v - i := by unfold dst; split <;> omega
      rw [← this]; exact core
    · rw [pk_sub (by omega)]
      have : dst v i = i - v := by unfold dst; rw [if_pos (by omega)]
      rw [← this]; exact core
end RD
