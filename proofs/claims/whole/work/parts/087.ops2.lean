/-! the calls: what the heap reaches -/
section OPS2
variable {A : xM} {L : xL} {K : xM → xL → Prop}
theorem s_knowsY {n s : Nat} (hn : n ≤ 6) (h : A (2 + 6 * 0) 6 = nI n) (hs : s < 2 ^ n) {post : Int32 → Prop} (p : post 1) : v_X1_knows 0 (nI s) A L post := by
  have : 2 ^ n ≤ 2 ^ 6 := Nat.pow_le_pow_right (by decide) hn
  refine s_knows (by decide) hn h ?_
  rw [if_pos ⟨nI_pos (by omega), nI_ge hs (by omega)⟩]
  exact p
theorem s_knowsN {n : Nat} {x : Int32} (hn : n ≤ 6) (h : A (2 + 6 * 0) 6 = nI n) (hx : ¬ ∃ s, s < 2 ^ n ∧ x = nI s) {post : Int32 → Prop} (p : post 0) : v_X1_knows 0 x A L post := by
  have : 2 ^ n ≤ 2 ^ 6 := Nat.pow_le_pow_right (by decide) hn
  refine s_knows (by decide) hn h ?_
  rw [if_neg (fun q => hx ?_)]
  · exact p
  · obtain ⟨j, hj, e⟩ := nI_of q.1
    refine ⟨j, Nat.lt_of_not_le fun c => q.2 ?_, e⟩
    rw [e]
    exact nI_le c hj
theorem r_isSet {n : Nat} {x : Int32} (hn : n ≤ 6) (h : A 23 0 = nI n) {post : Int32 → Prop} (pY : (∃ s, 1 ≤ s ∧ s < 2 ^ n ∧ x = nI s) → post 1) (pN : (¬ ∃ s, 1 ≤ s ∧ s < 2 ^ n ∧ x = nI s) → post 0) : v_X6_isSet x A L post := by
  have hp : 2 ^ n ≤ 2 ^ 6 := Nat.pow_le_pow_right (by decide) hn
  have h1 : 1 ≤ 2 ^ n := Nat.one_le_two_pow
  unfold v_X6_isSet
  rw [h, w_shl n (by omega), show (1 : Int32) = nI 1 from rfl, pk_sub h1, show (1 : Int64) = (nI 1).toInt64 by decide]
  refine s_in (fun w => ⟨Or.inr rfl, pY ?_⟩) (fun w => ⟨Or.inl rfl, pN fun q => w ?_⟩)
  · obtain ⟨s, a, b, e⟩ := wI_nat (by omega) (by omega) w
    exact ⟨s, a, by omega, e⟩
  · obtain ⟨s, a, b, e⟩ := q
    rw [e]
    exact wI_of a (by omega) (by omega)
/-- two long answers, to be compared -/
def EQL (K : xM → xL → Prop) (r r2 : Int64) (A : xM) (L : xL) : Prop := (lg_cmp r r2 = 0 → K A L) ∧ (¬ lg_cmp r r2 = 0 → False)
theorem EQL.mk {K : xM → xL → Prop} {r : Int64} {A : xM} {L : xL} (h : K A L) : EQL K r r A L := ⟨fun _ => h, fun c => c ((lg_cmp_eq r r).mpr rfl)⟩
theorem set0 {s : Nat} (h : s < 2 ^ 31) : nI s = 0 ↔ s = 0 := nI_eq (b := 0) h (by omega)
theorem op_ways (I : Inv A L) (x y : Int32) (k : ∀ A' L', Inv A' L' → K A' L') : v_X5_ways x y A L (fun r A1 L1 => v_X6_ways x y A1 L1 (fun r2 A2 L2 => EQL K r r2 A2 L2)) := by
  obtain ⟨n, ac, mo, nc, it, cd, T, c, hC, hR⟩ := id I
  have hpw := c.pow
  obtain ⟨ch, h3⟩ := hC.2.2.1
  unfold v_X5_ways v_X5_isNoWholeSet
  by_cases g0 : ∃ s, 1 ≤ s ∧ s < 2 ^ n ∧ x = nI s
  · obtain ⟨s, s1, s2, rfl⟩ := id g0
    refine ⟨fun q => absurd ((set0 (by omega)).mp q) (by omega), fun _ => s_knowsY c.1 h3.2.1 s2 (z1' (z0' ?_))⟩
    by_cases g : wI y (nI 1) (nI 3000)
    · obtain ⟨v, v1, v2, rfl⟩ := wI_nat (by omega) (by omega) g
      refine oY g (z0 (hC.look c.2.2.2.1 (fun A1 L1 fl nf hC1 f1 V => c_count (by decide) V s1 (by omega) v1 (by omega) ?_)))
      have hR1 := hR.of f1
      unfold v_X6_ways
      refine r_isSet c.1 hR1.1 (fun _ => z1 (iY g (z1' (hR1.look c (fun A2 L2 hR2 f2 V2 => ?_))))) (fun q => absurd g0 q)
      have row := r_row V2 s2 v1 (show v < 3001 by omega)
      rw [row.2]
      exact ⟨row.1, EQL.mk (k _ _ (Inv.mk c hC1 f2 hR2))⟩
    · refine oN g (z1 ?_)
      unfold v_X6_ways
      exact r_isSet c.1 hR.1 (fun _ => z1 (iN g (z0' (EQL.mk (k _ _ I))))) (fun q => absurd g0 q)
  · have ref : v_X6_ways x y A L (fun r2 A2 L2 => EQL K (-1002) r2 A2 L2) := by
      unfold v_X6_ways
      exact r_isSet c.1 hR.1 (fun q => absurd q g0) (fun _ => z0 (EQL.mk (k _ _ I)))
    refine ⟨fun _ => z1' ref, fun q => ?_⟩
    refine s_knowsN c.1 h3.2.1 (fun w => g0 ?_) (z0' (z1' ref))
    obtain ⟨s, s2, e⟩ := w
    exact ⟨s, Nat.pos_of_ne_zero fun e2 => q (by rw [e, e2]; rfl), s2, e⟩
theorem op_all (I : Inv A L) (x : Int32) (k : ∀ A' L', Inv A' L' → K A' L') : v_X5_all x A L (fun r A1 L1 => v_X6_all x A1 L1 (fun r2 A2 L2 => EQL K r r2 A2 L2)) := by
  obtain ⟨n, ac, mo, nc, it, cd, T, c, hC, hR⟩ := id I
  unfold v_X5_all
  by_cases g : wI x (nI 1) (nI 3000)
  · obtain ⟨v, v1, v2, rfl⟩ := wI_nat (by omega) (by omega) g
    refine oY g (z0 (hC.look c.2.2.2.1 (fun A1 L1 fl nf hC1 f1 V => c_all (by decide) V wR_00 v1 (by omega) ?_)))
    rw [c.as1]
    have hR1 := hR.of f1
    unfold v_X6_all
    exact iY g (z1' (hR1.look c (fun A2 L2 hR2 f2 V2 => r_all V2 v1 (by omega) (EQL.mk (k _ _ (Inv.mk c hC1 f2 hR2))))))
  · refine oN g (z1 ?_)
    unfold v_X6_all
    exact iN g (z0' (EQL.mk (k _ _ I)))
theorem op_reached (I : Inv A L) (x : Int32) (k : ∀ A' L', Inv A' L' → K A' L') : v_X5_reached x A L (fun r A1 L1 => v_X6_reached x A1 L1 (fun r2 A2 L2 => EQ K r r2 A2 L2)) := by
  obtain ⟨n, ac, mo, nc, it, cd, T, c, hC, hR⟩ := id I
  have hpw := c.pow
  obtain ⟨ch, h3⟩ := hC.2.2.1
  unfold v_X5_reached
  by_cases g0 : ∃ s, s < 2 ^ n ∧ x = nI s
  · obtain ⟨s, s2, rfl⟩ := id g0
    refine s_knowsY c.1 h3.2.1 s2 (z1' (hC.look c.2.2.2.1 (fun A1 L1 fl nf hC1 f1 V => c_numbers (by decide) V (by omega) ?_)))
    rw [c.hs1]
    have hR1 := hR.of f1
    have main : v_X6_reached_16 (nI s) A1 L1 (fun r2 A2 L2 => EQ K (nI (cN (hS (wR n ac mo it) (2 ^ n) s) 3001)) r2 A2 L2) := by
      unfold v_X6_reached_16
      exact hR1.look c (fun A2 L2 hR2 f2 V2 => r_numbers V2 s2 (EQ.mk (k _ _ (Inv.mk c hC1 f2 hR2))))
    unfold v_X6_reached
    exact ⟨fun _ => main, fun q => r_isSet c.1 hR1.1 (fun _ => z1' main) (fun w => absurd ⟨s, Nat.pos_of_ne_zero fun e => q (by rw [e]; rfl), s2, rfl⟩ w)⟩
  · refine s_knowsN c.1 h3.2.1 g0 (z0' ?_)
    unfold v_X6_reached
    exact ⟨fun q => absurd ⟨0, Nat.two_pow_pos n, q⟩ g0, fun _ => r_isSet c.1 hR.1 (fun ⟨s, _, b, e⟩ => absurd ⟨s, b, e⟩ g0) (fun _ => z0' (EQ.mk (k _ _ I)))⟩
theorem op_value (I : Inv A L) (x y : Int32) (k : ∀ A' L', Inv A' L' → K A' L') : v_X5_value x y A L (fun r A1 L1 => v_X6_value x y A1 L1 (fun r2 A2 L2 => EQ K r r2 A2 L2)) := by
  obtain ⟨n, ac, mo, nc, it, cd, T, c, hC, hR⟩ := id I
  have hpw := c.pow
  obtain ⟨ch, h3⟩ := hC.2.2.1
  unfold v_X5_value
  by_cases g0 : ∃ s, s < 2 ^ n ∧ x = nI s
  · obtain ⟨s, s2, rfl⟩ := id g0
    refine s_knowsY c.1 h3.2.1 s2 (z1' (hC.look c.2.2.2.1 (fun A1 L1 fl nf hC1 f1 V => c_number (by decide) V (by omega) ?_)))
    rw [c.hs1]
    have hR1 := hR.of f1
    have main : v_X6_value_16 (nI s) y A1 L1 (fun r2 A2 L2 => EQ K (fF (pV (hS (wR n ac mo it) (2 ^ n) s) y) (-1)) r2 A2 L2) := by
      unfold v_X6_value_16
      exact hR1.look c (fun A2 L2 hR2 f2 V2 => r_number V2 s2 (EQ.mk (k _ _ (Inv.mk c hC1 f2 hR2))))
    unfold v_X6_value
    exact ⟨fun _ => main, fun q => r_isSet c.1 hR1.1 (fun _ => z1' main) (fun w => absurd ⟨s, Nat.pos_of_ne_zero fun e => q (by rw [e]; rfl), s2, rfl⟩ w)⟩
  · refine s_knowsN c.1 h3.2.1 g0 (z0' ?_)
    unfold v_X6_value
    exact ⟨fun q => absurd ⟨0, Nat.two_pow_pos n, q⟩ g0, fun _ => r_isSet c.1 hR.1 (fun ⟨s, _, b, e⟩ => absurd ⟨s, b, e⟩ g0) (fun _ => z0' (EQ.mk (k _ _ I)))⟩
theorem op_missing (I : Inv A L) (k : ∀ A' L', Inv A' L' → K A' L') : v_X5_missing A L (fun r A1 L1 => v_X6_missing A1 L1 (fun r2 A2 L2 => EQ K r r2 A2 L2)) := by
  obtain ⟨n, ac, mo, nc, it, cd, T, c, hC, hR⟩ := id I
  unfold v_X5_missing
  refine hC.look c.2.2.2.1 (fun A1 L1 fl nf hC1 f1 V => c_least V ?_)
  have e : (fun v => decide (0 < aS (wR n ac mo it) (64 - 48 * 0) v)) = fun v => decide (0 < aS (wR n ac mo it) (2 ^ n) v) := funext fun v => by rw [c.as1]
  rw [e]
  have hR1 := hR.of f1
  unfold v_X6_missing
  exact hR1.look c (fun A2 L2 hR2 f2 V2 => r_least V2 (EQ.mk (k _ _ (Inv.mk c hC1 f2 hR2))))
theorem bst_R {n ac mo nc : Nat} {it cd : Nat → Nat} {T : List Nat} (c : CM n ac mo nc it cd T) (v : Nat) : bst (fun s => decide (0 < wR n ac mo it s v)) 64 = bst (fun s => decide (0 < wR n ac mo it s v)) (2 ^ n) :=
  bst_more _ 64 c.pow (fun j h1 _ => by
    have : wR n ac mo it j v = 0 := by unfold wR; rw [if_neg (by omega)]
    rw [this]; rfl)
theorem reach_bst {n ac mo nc : Nat} {it cd : Nat → Nat} {T : List Nat} (c : CM n ac mo nc it cd T) (v : Nat) : decide (0 < aS (wR n ac mo it) (64 - 48 * 0) v) = decide (bst (fun s => decide (0 < wR n ac mo it s v)) (2 ^ n) ≠ 0) := by
  rw [c.as1]
  have key : ∀ i, bst (fun s => decide (0 < wR n ac mo it s v)) i ≠ 0 ↔ 0 < aS (wR n ac mo it) i v := by
    intro i
    induction i with
    | zero => exact ⟨fun h => absurd rfl h, fun h => absurd h (Nat.lt_irrefl 0)⟩
    | succ i ih =>
      have e1 : bst (fun s => decide (0 < wR n ac mo it s v)) (i + 1) = if 1 ≤ i ∧ decide (0 < wR n ac mo it i v) = true ∧ (bst (fun s => decide (0 < wR n ac mo it s v)) i = 0 ∨ pb i < pb (bst (fun s => decide (0 < wR n ac mo it s v)) i)) then i else bst (fun s => decide (0 < wR n ac mo it s v)) i := rfl
      have e2 : aS (wR n ac mo it) (i + 1) v = aS (wR n ac mo it) i v + wR n ac mo it i v := rfl
      rw [e1, e2]
      generalize bst (fun s => decide (0 < wR n ac mo it s v)) i = b at ih
      split
      · rename_i h
        have := of_decide_eq_true h.2.1
        omega
      · rename_i h
        by_cases hw : 0 < wR n ac mo it i v
        · have hi : 1 ≤ i := Nat.pos_of_ne_zero fun e => by rw [e, wR_0] at hw; omega
          have hb : b ≠ 0 := fun e => h ⟨hi, decide_eq_true hw, Or.inl e⟩
          have := ih.mp hb
          exact ⟨fun _ => by omega, fun _ => hb⟩
        · have := ih
          omega
  have := key (2 ^ n)
  by_cases h : 0 < aS (wR n ac mo it) (2 ^ n) v
  · rw [decide_eq_true h, decide_eq_true (this.mpr h)]
  · rw [decide_eq_false h, decide_eq_false (fun q => h (this.mp q))]
theorem op_aim (I : Inv A L) (x y : Int32) (k : ∀ A' L', Inv A' L' → K A' L') : v_X5_aim x y A L (fun r A1 L1 => v_X6_aim x y A1 L1 (fun r2 A2 L2 => EQ K r r2 A2 L2)) := by
  obtain ⟨n, ac, mo, nc, it, cd, T, c, hC, hR⟩ := id I
  have hpw := c.pow
  unfold v_X5_aim
  by_cases g : wI x (nI 1) (nI 3000)
  · obtain ⟨v, v1, v2, rfl⟩ := wI_nat (by omega) (by omega) g
    refine oY g (z0' ?_)
    by_cases g2 : wI y (nI 0) (nI 3)
    · obtain ⟨w, _, w2, rfl⟩ := wI_nat (by omega) (by omega) g2
      refine oY g2 (z0 (hC.look c.2.2.2.1 (fun A1 L1 fl nf hC1 f1 V => ?_)))
      have hR1 := hR.of f1
      have rb := reach_bst c v
      have bR := bst_R c v
      have blt := bst_lt (fun s => decide (0 < wR n ac mo it s v)) (2 ^ n)
      -- the reference, from its first set on
      have ref : ∀ r : Int32, (∀ A2 L2, IR n ac mo nc it cd T A2 L2 → RFr A1 L1 A2 L2 → RR (wR n ac mo it) n A2 L2 → ((w = 3 → NR (fun u => decide (0 < aS (wR n ac mo it) (2 ^ n) u)) v r) ∧ (w = 0 → r = bI (decide (bst (fun s => decide (0 < wR n ac mo it s v)) (2 ^ n) ≠ 0))) ∧ (w = 1 → r = if bst (fun s => decide (0 < wR n ac mo it s v)) (2 ^ n) = 0 then -1 else nI (pb (bst (fun s => decide (0 < wR n ac mo it s v)) (2 ^ n)))) ∧ (w = 2 → r = if bst (fun s => decide (0 < wR n ac mo it s v)) (2 ^ n) = 0 then -1 else nI (bst (fun s => decide (0 < wR n ac mo it s v)) (2 ^ n))))) → v_X6_aim (nI v) (nI w) A1 L1 (fun r2 A2 L2 => EQ K r r2 A2 L2) := fun r hr => by
        unfold v_X6_aim
        refine iY g (z1 (iY g2 (z1' (hR1.look c (fun A2 L2 hR2 f2 V2 => r_first V2 v1 (by omega) ?_)))))
        have H := hr A2 L2 hR2 f2 V2
        have kk := k _ _ (Inv.mk c hC1 f2 hR2)
        generalize bst (fun s => decide (0 < wR n ac mo it s v)) (2 ^ n) = b at H blt
        refine ⟨fun q => ?_, fun q => ?_, fun q => ?_, fun q => ?_⟩
        · rw [nI_toInt (by omega)] at q
          have h9 := H.1 (by omega)
          refine r_near V2 v1 (by omega) (fun r2 h2 => ?_)
          rw [h9.one h2]
          exact EQ.mk kk
        · have : w = 0 := (nI_eq (b := 0) (by omega) (by omega)).mp q
          rw [H.2.1 this]
          by_cases e : b = 0
          · rw [if_pos e, decide_eq_false (fun q => q e)]
            exact ⟨fun _ => EQ.mk kk, fun q => absurd (by decide) q⟩
          · rw [if_neg e, decide_eq_true e]
            exact ⟨fun q => absurd q (nI_pos (by omega)), fun _ => EQ.mk kk⟩
        · have : w = 1 := (nI_eq (b := 1) (by omega) (by omega)).mp q
          rw [H.2.2.1 this]
          by_cases e : b = 0
          · rw [if_pos e, if_pos e]
            exact ⟨fun _ => EQ.mk kk, fun q => absurd (by decide) q⟩
          · rw [if_neg e, if_neg e]
            exact ⟨fun q => absurd q (nI_pos (by omega)), fun _ => s_bits (by omega) (EQ.mk kk)⟩
        · have : w = 2 := (nI_eq (b := 2) (by omega) (by omega)).mp q
          rw [H.2.2.2 this]
          exact EQ.mk kk
      refine ⟨fun q => ?_, fun q => ?_, fun q => ?_, fun q => ?_⟩
      · rw [nI_toInt (by omega)] at q
        have hw : w = 3 := by omega
        refine c_near V v1 (by omega) (fun r hr => ref r (fun _ _ _ _ _ => ⟨fun _ => ?_, fun q => by omega, fun q => by omega, fun q => by omega⟩))
        have e : (fun u => decide (0 < aS (wR n ac mo it) (64 - 48 * 0) u)) = fun u => decide (0 < aS (wR n ac mo it) (2 ^ n) u) := funext fun u => by rw [c.as1]
        rw [e] at hr
        exact hr
      · have hw : w = 0 := (nI_eq (b := 0) (by omega) (by omega)).mp q
        refine c_reach V v1 (by omega) ?_
        rw [rb]
        have R := fun r h => ref r (fun _ _ _ _ _ => ⟨fun q => by omega, fun _ => h, fun q => by omega, fun q => by omega⟩)
        refine ⟨fun q2 => R 0 ?_, fun q2 => R 1 ?_⟩
        · rw [bI_0.1 q2]; rfl
        · rw [bI_0.2 q2]; rfl
      · have hw : w = 1 := (nI_eq (b := 1) (by omega) (by omega)).mp q
        refine c_reach V v1 (by omega) ?_
        rw [rb]
        have R := fun r h => ref r (fun _ _ _ _ _ => ⟨fun q => by omega, fun q => by omega, fun _ => h, fun q => by omega⟩)
        refine ⟨fun q2 => R (-1) ?_, fun q2 => ?_⟩
        · have := of_decide_eq_false (bI_0.1 q2)
          rw [if_pos (by omega)]
        · have hb := of_decide_eq_true (bI_0.2 q2)
          refine c_first V v1 (by omega) ?_
          rw [bR, if_neg hb]
          refine s_bc (by omega) (R _ ?_)
          rw [if_neg hb]
      · have hw : w = 2 := (nI_eq (b := 2) (by omega) (by omega)).mp q
        refine c_first V v1 (by omega) ?_
        rw [bR]
        exact ref _ (fun _ _ _ _ _ => ⟨fun q => by omega, fun q => by omega, fun q => by omega, fun _ => rfl⟩)
    · refine oN g2 (z1 ?_)
      unfold v_X6_aim
      exact iY g (z1 (iN g2 (z0' (EQ.mk (k _ _ I)))))
  · refine oN g (z1' ?_)
    unfold v_X6_aim
    exact iN g (z0 (EQ.mk (k _ _ I)))
end OPS2
