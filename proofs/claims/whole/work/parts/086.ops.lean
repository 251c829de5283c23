/-! the calls: items, rules, what is told -/
section OPS
variable {A : xM} {L : xL} {K : xM → xL → Prop}
theorem op_item (I : Inv A L) (x : Int32) (k : ∀ A' L', Inv A' L' → K A' L') : v_X5_item x A L (fun r A1 L1 => v_X6_item x A1 L1 (fun r2 A2 L2 => EQ K r r2 A2 L2)) := by
  obtain ⟨n, ac, mo, nc, it, cd, T, c, hC, hR⟩ := id I
  obtain ⟨ch, h3⟩ := hC.2.2.1
  obtain ⟨h1, h2, h4, h5, h6, h7⟩ := id hR
  have c' := c
  obtain ⟨c1, c2, c3, c4, c5, c6, c7, c8⟩ := c'
  unfold v_X5_item
  by_cases g : wI x (nI 1) (nI 100)
  · obtain ⟨v, g1, g2, rfl⟩ := wI_nat (by omega) (by omega) g
    refine oY g (z0 ?_)
    rw [h3.2.1]
    refine pk_lt n 6 (fun q x2 e2 => ?_) (fun q => ?_)
    · subst e2
      refine s_place (by decide) h3 (Nat.le_refl n) q g1 g2 (fun A1 ch1 p1 p2 => ?_)
      rw [if_pos (show n < n + 1 by omega)] at p1
      have hC1 := hC.heap0 p1 p2
      have hR1 := hR.of (p2.c (by decide))
      obtain ⟨r1, r2, r4, r5, r6, r7⟩ := id hR1
      unfold v_X6_item
      refine iY g (z1' ?_)
      rw [r1]
      refine ⟨fun _ => ⟨pk_in n 6 q, fun B1 e1 B2 e2 B3 e3 => ?_⟩, fun q2 => ?_⟩
      · rw [nI_clamp (show n < 2 ^ 31 by omega)] at e1
        have b0 : B1 23 0 = nI n := by rw [e1]; unfold xu; rw [if_neg (by omega)]; exact r1
        rw [b0, nI_1] at e2
        have b30 : B3 23 0 = nI (n + 1) := by rw [e3, e2]; unfold xu; rw [if_neg (by omega), if_pos ⟨rfl, rfl⟩]
        rw [b30, nI_pred]
        have fr : ∀ a b, a ≠ 24 → ¬ (a = 23 ∧ (b = 0 ∨ b = 13)) → B3 a b = A1 a b := fun a b q1 q2 => by
          rw [e3, e2, e1]; unfold xu
          rw [if_neg (by omega), if_neg (by omega), if_neg (by omega)]
        refine EQ.mk (k _ _ (Inv.mk (n := n + 1) (ac := ac) (mo := mo) (nc := nc) (it := uF it n v) (cd := cd) (T := T) ⟨by omega, c2, c3, c4, c5, c6, fun j hj => ?_, c8⟩ hC1 ⟨fun a b q => fr a b (by omega) (by omega), fun _ _ _ => rfl⟩ ⟨b30, fun j hj => ?_, ?_, ?_, ?_, ?_⟩))
        · unfold uF
          split
          · exact ⟨g1, g2⟩
          · exact c7 j (by omega)
        · rw [e3, e2, e1]; unfold xu uF
          rw [if_neg (by omega), if_neg (by omega)]
          by_cases e : j = n
          · rw [if_pos ⟨rfl, e⟩, if_pos e]
          · rw [if_neg (by omega), if_neg e]; exact r2 j (by omega)
        · obtain ⟨b1, b2, b3, b4⟩ := r4
          exact ⟨by rw [fr _ _ (by omega) (by omega)]; exact b1, by rw [fr _ _ (by omega) (by omega)]; exact b2, by rw [fr _ _ (by omega) (by omega)]; exact b3, fun k hk => by rw [fr _ _ (by omega) (by omega)]; exact b4 k hk⟩
        · rw [fr _ _ (by omega) (by omega)]; exact r5
        · intro i hi; rw [fr _ _ (by omega) (by omega)]; exact r6 i hi
        · exact Or.inl (by rw [e3]; simp [xu])
      · have := (nI_eq (a := n) (b := 6) (by omega) (by omega)).mp q2
        omega
    · unfold v_X6_item
      refine iY g (z1' ?_)
      rw [h1]
      refine ⟨fun q2 => absurd (by rw [show n = 6 by omega]; rfl) q2, fun _ => EQ.mk (k _ _ I)⟩
  · refine oN g (z1 ?_)
    unfold v_X6_item
    exact iN g (z0' (EQ.mk (k _ _ I)))
theorem s_itemAt {n ac mo k : Nat} {it : Nat → Nat} {ch : Nat} (h : HI 0 A L n ac mo it ch) (hk : k < n) {post : Int32 → Prop} (p : post (nI (it k))) : v_X1_itemAt 0 (nI k) A L post := by
  have hn := h.1
  unfold v_X1_itemAt
  rw [h.2.1]
  refine ⟨fun c => absurd c (nI_pos (by omega)), fun _ => pk_le n k (fun c => absurd c (by omega)) (fun _ => pk_lt k 6 (fun _ => ⟨pk_in k _ (by omega), ?_⟩) (fun c => absurd c (by omega)))⟩
  rw [nI_clamp (show k < 2 ^ 31 by omega), (h.2.2.2.2.1 k hk).1]
  exact p
theorem op_set (I : Inv A L) (x y : Int32) (k : ∀ A' L', Inv A' L' → K A' L') : v_X5_set x y A L (fun r A1 L1 => v_X6_set x y A1 L1 (fun r2 A2 L2 => EQ K r r2 A2 L2)) := by
  obtain ⟨n, ac, mo, nc, it, cd, T, c, hC, hR⟩ := id I
  obtain ⟨ch, h3⟩ := hC.2.2.1
  obtain ⟨h1, h2, h4, h5, h6, h7⟩ := id hR
  have c' := c
  obtain ⟨c1, c2, c3, c4, c5, c6, c7, c8⟩ := c'
  unfold v_X5_set
  rw [h3.2.1]
  by_cases g0 : wI x 0 (nI n - 1)
  · obtain ⟨i, hi, rfl⟩ := wI_less (by omega) g0
    refine oY g0 (z0 ?_)
    by_cases g : wI y (nI 1) (nI 100)
    · obtain ⟨v, g1, g2, rfl⟩ := wI_nat (by omega) (by omega) g
      refine oY g (z0 (s_itemAt h3 hi ?_))
      refine s_place (by decide) h3 (Nat.le_of_lt hi) (by omega) g1 g2 (fun A1 ch1 p1 p2 => ?_)
      rw [if_neg (show ¬ n < i + 1 by omega)] at p1
      have hC1 := hC.heap0 p1 p2
      have hR1 := hR.of (p2.c (by decide))
      obtain ⟨r1, r2, r4, r5, r6, r7⟩ := id hR1
      unfold v_X6_set
      rw [r1]
      refine iY g0 (z1' (iY g (z1' ⟨pk_in i 6 (by omega), fun x3 e3 B1 e1 B2 e2 => ?_⟩)))
      rw [nI_clamp (show i < 2 ^ 31 by omega)] at e3 e1
      rw [r2 i hi] at e3
      subst e3
      have fr : ∀ a b, ¬ (a = 24 ∧ b = i) → ¬ (a = 23 ∧ b = 13) → B2 a b = A1 a b := fun a b q1 q2 => by
        rw [e2, e1]; unfold xu
        rw [if_neg q2, if_neg q1]
      refine EQ.mk (k _ _ (Inv.mk (n := n) (ac := ac) (mo := mo) (nc := nc) (it := uF it i v) (cd := cd) (T := T) ⟨c1, c2, c3, c4, c5, c6, fun j hj => ?_, c8⟩ hC1 ⟨fun a b q => fr a b (by omega) (by omega), fun _ _ _ => rfl⟩ ⟨by rw [fr _ _ (by omega) (by omega)]; exact r1, fun j hj => ?_, ?_, ?_, ?_, ?_⟩))
      · unfold uF
        split
        · exact ⟨g1, g2⟩
        · exact c7 j hj
      · rw [e2, e1]; unfold xu uF
        rw [if_neg (by omega)]
        by_cases e : j = i
        · rw [if_pos ⟨rfl, e⟩, if_pos e]
        · rw [if_neg (by omega), if_neg e]; exact r2 j hj
      · obtain ⟨b1, b2, b3, b4⟩ := r4
        exact ⟨by rw [fr _ _ (by omega) (by omega)]; exact b1, by rw [fr _ _ (by omega) (by omega)]; exact b2, by rw [fr _ _ (by omega) (by omega)]; exact b3, fun k hk => by rw [fr _ _ (by omega) (by omega)]; exact b4 k hk⟩
      · rw [fr _ _ (by omega) (by omega)]; exact r5
      · intro i hi; rw [fr _ _ (by omega) (by omega)]; exact r6 i hi
      · exact Or.inl (by rw [e2]; simp [xu])
    · refine oN g (z1 ?_)
      unfold v_X6_set
      dsimp only
      rw [h1]
      exact iY g0 (z1' (iN g (z0' (EQ.mk (k _ _ I)))))
  · refine oN g0 (z1 ?_)
    unfold v_X6_set
    dsimp only
    rw [h1]
    exact iN g0 (z0' (EQ.mk (k _ _ I)))
theorem op_cut (I : Inv A L) (x : Int32) (k : ∀ A' L', Inv A' L' → K A' L') : v_X5_cut x A L (fun r A1 L1 => v_X6_cut x A1 L1 (fun r2 A2 L2 => EQ K r r2 A2 L2)) := by
  obtain ⟨n, ac, mo, nc, it, cd, T, c, hC, hR⟩ := id I
  obtain ⟨ch, h3⟩ := hC.2.2.1
  obtain ⟨h1, h2, h4, h5, h6, h7⟩ := id hR
  have c' := c
  obtain ⟨c1, c2, c3, c4, c5, c6, c7, c8⟩ := c'
  unfold v_X5_cut
  rw [h3.2.1]
  by_cases g : wI x (nI 0) (nI n)
  · obtain ⟨m, g1, g2, rfl⟩ := wI_nat (by omega) (by omega) g
    refine oY g (z0 (fun x2 e2 => ?_))
    subst e2
    refine s_shorten (by decide) h3 g2 (fun A1 ch1 p1 p2 => ?_)
    have hC1 := hC.heap0 p1 p2
    have hR1 := hR.of (p2.c (by decide))
    obtain ⟨r1, r2, r4, r5, r6, r7⟩ := id hR1
    unfold v_X6_cut
    dsimp only
    rw [r1]
    refine iY g (z1' (fun x2 e2 B1 e1 B2 e3 => ?_))
    subst e2
    have fr : ∀ a b, ¬ (a = 23 ∧ (b = 0 ∨ b = 13)) → B2 a b = A1 a b := fun a b q2 => by
      rw [e3, e1]; unfold xu
      rw [if_neg (by omega), if_neg (by omega)]
    refine EQ.mk (k _ _ (Inv.mk (n := m) (ac := ac) (mo := mo) (nc := nc) (it := it) (cd := cd) (T := T) ⟨by omega, c2, c3, c4, c5, c6, fun j hj => c7 j (by omega), c8⟩ hC1 ⟨fun a b q => fr a b (by omega), fun _ _ _ => rfl⟩ ⟨?_, fun j hj => ?_, ?_, ?_, ?_, ?_⟩))
    · rw [e3, e1]; unfold xu; rw [if_neg (by omega), if_pos ⟨rfl, rfl⟩]
    · rw [fr _ _ (by omega)]; exact r2 j (by omega)
    · obtain ⟨b1, b2, b3, b4⟩ := r4
      exact ⟨by rw [fr _ _ (by omega)]; exact b1, by rw [fr _ _ (by omega)]; exact b2, by rw [fr _ _ (by omega)]; exact b3, fun k hk => by rw [fr _ _ (by omega)]; exact b4 k hk⟩
    · rw [fr _ _ (by omega)]; exact r5
    · intro i hi; rw [fr _ _ (by omega)]; exact r6 i hi
    · exact Or.inl (by rw [e3]; simp [xu])
  · refine oN g (z1 ?_)
    unfold v_X6_cut
    dsimp only
    rw [h1]
    exact iN g (z0' (EQ.mk (k _ _ I)))
theorem op_rule (I : Inv A L) (x y : Int32) (k : ∀ A' L', Inv A' L' → K A' L') : v_X5_rule x y A L (fun r A1 L1 => v_X6_rule x y A1 L1 (fun r2 A2 L2 => EQ K r r2 A2 L2)) := by
  obtain ⟨n, ac, mo, nc, it, cd, T, c, hC, hR⟩ := id I
  have c' := c
  obtain ⟨c1, c2, c3, c4, c5, c6, c7, c8⟩ := c'
  -- the class, from new rules on
  have tail : ∀ (ac' mo' : Nat) (x4 : Int32) (A1 : xM), (∀ a b, a ≠ 1 → A1 a b = A a b) → A1 1 0 = nI ac' → A1 1 1 = nI mo' → ∀ post : Int32 → xM → xL → Prop, (∀ A', IC n ac' mo' nc it cd T A' L → CFr A L A' L → post x4 A' L) → v_X5_rule_86 x4 A1 L post := by
    intro ac' mo' x4 A1 f a0 a1 post h
    obtain ⟨-, -, ⟨ch, p3⟩, ⟨n1, it1, ch1, p4⟩, p5, p6, -, p8, p9, p10⟩ := id hC
    unfold v_X5_rule_86
    refine s_every (by decide) (ac' := ac') (mo' := mo') (p3.mem (A' := A1) (L' := L) (fun a b q => f a b (by unfold hT at q; omega)) (fun _ _ _ => rfl)) (fun A2 ch2 q1 q2 => ?_)
    refine s_every (by decide) (ac' := ac') (mo' := mo') (p4.mem (A' := A2) (L' := L) (fun a b q => by rw [q2.1 a b (by unfold hT at q ⊢; omega)]; exact f a b (by unfold hT at q; omega)) (fun _ _ _ => rfl)) (fun A3 ch3 q3 q4 => ?_)
    unfold v_X0_forgetTallies
    intro A4 e4
    have fr : ∀ a b, ¬ hT 0 a → ¬ hT 1 a → ¬ (a = 14 ∧ b = 5) → A4 a b = A1 a b := fun a b u1 u2 u3 => by
      rw [e4]; unfold xu
      rw [if_neg u3, q4.1 a b u2, q2.1 a b u1]
    have f4 : ∀ a b, ¬ (a = 14 ∧ b = 5) → A4 a b = A3 a b := fun a b u => by rw [e4]; unfold xu; rw [if_neg u]
    refine h A4 ⟨?_, ?_, ⟨ch2, q1.mem (fun a b u => ?_) (fun _ _ _ => rfl)⟩, ⟨n1, it1, ch3, q3.mem (fun a b u => f4 a b (by unfold hT at u; omega)) (fun _ _ _ => rfl)⟩, ?_, fun k hk => ?_, ⟨0, by rw [e4]; simp [xu]; rfl, by omega, fun m a b d => by simp at d⟩, ?_, fun i hi => ?_, p10.of (fun a b u => ?_)⟩ ⟨fun a b u1 u2 => ?_, fun _ => rfl⟩
    · rw [fr _ _ (by unfold hT; omega) (by unfold hT; omega) (by omega)]; exact a0
    · rw [fr _ _ (by unfold hT; omega) (by unfold hT; omega) (by omega)]; exact a1
    · rw [f4 a b (by unfold hT at u; omega)]; exact q4.1 a b (by unfold hT at u ⊢; omega)
    · rw [fr _ _ (by unfold hT; omega) (by unfold hT; omega) (by omega), f _ _ (by omega)]; exact p5
    · rw [fr _ _ (by unfold hT; omega) (by unfold hT; omega) (by omega), f _ _ (by omega)]; exact p6 k hk
    · rw [fr _ _ (by unfold hT; omega) (by unfold hT; omega) (by omega), f _ _ (by omega)]; exact p8
    · rw [fr _ _ (by unfold hT; omega) (by unfold hT; omega) (by omega), f _ _ (by omega)]; exact p9 i hi
    · rw [fr _ _ (by unfold hT; omega) (by unfold hT; omega) (by omega), f _ _ (by omega)]
    · rw [fr _ _ (by unfold hT; omega) (by unfold hT; omega) (by omega), f _ _ (by omega)]
  -- the end of both
  have fin : ∀ (ac' mo' : Nat) (A1 B : xM), ac' < 16 → 1 ≤ mo' → mo' ≤ 3000 → IC n ac' mo' nc it cd T A1 L → CFr A L A1 L → (∀ a b, ¬ (a = 23 ∧ (b = 2 ∨ b = 3 ∨ b = 13)) → B a b = A1 a b) → B 23 2 = nI ac' → B 23 3 = nI mo' → B 23 13 = 0 → Inv B L := by
    intro ac' mo' A1 B u1 u2 u3 hC1 f1 fr b2 b3 b13
    obtain ⟨r1, r2, r4, r5, r6, r7⟩ := hR.of f1
    obtain ⟨q1, q2, q3, q4⟩ := r4
    exact Inv.mk (n := n) (ac := ac') (mo := mo') (nc := nc) (it := it) (cd := cd) (T := T) ⟨c1, u1, u2, u3, c5, c6, c7, c8⟩ hC1 ⟨fun a b q => fr a b (by omega), fun _ _ _ => rfl⟩ ⟨by rw [fr _ _ (by omega)]; exact r1, fun j hj => by rw [fr _ _ (by omega)]; exact r2 j hj, ⟨b2, b3, by rw [fr _ _ (by omega)]; exact q3, fun k hk => by rw [fr _ _ (by omega)]; exact q4 k hk⟩, by rw [fr _ _ (by omega)]; exact r5, fun i hi => by rw [fr _ _ (by omega)]; exact r6 i hi, Or.inl b13⟩
  have out : v_X6_rule x y A L (fun r2 A2 L2 => EQ K (-1002) r2 A2 L2) → v_X6_rule x y A L (fun r2 A2 L2 => EQ K (-1002) r2 A2 L2) := id
  unfold v_X5_rule
  by_cases g : wI x (nI 0) (nI 1)
  · obtain ⟨w, _, g2, rfl⟩ := wI_nat (by omega) (by omega) g
    rcases (show w = 0 ∨ w = 1 by omega) with rfl | rfl
    · refine ⟨fun q => absurd rfl q, fun _ => ?_⟩
      by_cases gy : wI y (nI 0) (nI 15)
      · obtain ⟨v, _, v2, rfl⟩ := wI_nat (by omega) (by omega) gy
        refine oY gy ?_
        unfold v_X5_rule_22
        refine oY g (z0' (z0 (z0' ?_)))
        unfold v_X5_rule_61
        refine z0' (fun A1 e1 => ?_)
        rw [hC.1]
        refine tail v mo (nI ac) A1 (fun a b q => by rw [e1]; unfold xu; rw [if_neg (by omega)]) (by rw [e1]; simp [xu]) (by rw [e1]; unfold xu; rw [if_neg (by omega)]; exact hC.2.1) _ (fun A' hC1 f1 => ?_)
        obtain ⟨r1, r2, r4, r5, r6, r7⟩ := hR.of f1
        unfold v_X6_rule
        refine iY g (z1 (z0' ?_))
        unfold v_X6_rule_27
        refine iY (a := nI 0) (b := nI 15) gy (z1' (z0' ?_))
        unfold v_X6_rule_52
        refine z0' ?_
        unfold v_X6_rule_66
        intro B1 e2
        refine ⟨fun _ => ?_, fun q => absurd q (by decide)⟩
        unfold v_X6_rule_83
        intro B2 e3 B3 e4
        rw [r4.1]
        have b13 : B1 23 3 = nI mo := by rw [e2]; unfold xu; rw [if_neg (by omega)]; exact r4.2.1
        rw [b13] at e3
        refine EQ.mk (k _ _ (fin v mo A' B3 (by omega) c3 c4 hC1 f1 (fun a b q => ?_) ?_ ?_ ?_))
        · rw [e4, e3, e2]; unfold xu; rw [if_neg (by omega), if_neg (by omega), if_neg (by omega)]
        · rw [e4, e3, e2]; unfold xu; rw [if_neg (by omega), if_neg (by omega), if_pos ⟨rfl, rfl⟩]
        · rw [e4, e3]; unfold xu; rw [if_neg (by omega), if_pos ⟨rfl, rfl⟩]
        · rw [e4]; simp [xu]
      · refine oN gy ?_
        unfold v_X5_rule_22
        refine oY g (z0' (z1 ?_))
        unfold v_X6_rule
        refine iY g (z1 (z0' ?_))
        unfold v_X6_rule_27
        exact iN (a := nI 0) (b := nI 15) gy (z0' (EQ.mk (k _ _ I)))
    · have n1 : ¬ nI 1 = 0 := by decide
      refine ⟨fun _ => ?_, fun q => absurd q n1⟩
      by_cases gy : wI y (nI 1) (nI 3000)
      · obtain ⟨v, v1, v2, rfl⟩ := wI_nat (by omega) (by omega) gy
        refine oY gy ?_
        unfold v_X5_rule_22
        refine oY g (z0' (z0 ⟨fun _ => ?_, fun q => absurd q n1⟩))
        unfold v_X5_rule_61
        refine ⟨fun _ A1 e1 => ?_, fun q => absurd q n1⟩
        rw [hC.2.1]
        refine tail ac v (nI mo) A1 (fun a b q => by rw [e1]; unfold xu; rw [if_neg (by omega)]) (by rw [e1]; unfold xu; rw [if_neg (by omega)]; exact hC.1) (by rw [e1]; simp [xu]) _ (fun A' hC1 f1 => ?_)
        obtain ⟨r1, r2, r4, r5, r6, r7⟩ := hR.of f1
        unfold v_X6_rule
        refine iY g (z1 ⟨fun _ => ?_, fun q => absurd q n1⟩)
        unfold v_X6_rule_27
        refine iY (a := nI 1) (b := nI 3000) gy (z1' ⟨fun _ => ?_, fun q => absurd q n1⟩)
        unfold v_X6_rule_52
        refine ⟨fun _ => ?_, fun q => absurd q n1⟩
        unfold v_X6_rule_66
        intro B1 e2
        refine ⟨fun q => absurd rfl q, fun _ => ?_⟩
        unfold v_X6_rule_83
        intro B2 e3 B3 e4
        rw [r4.2.1]
        rw [r4.1] at e2
        refine EQ.mk (k _ _ (fin ac v A' B3 c2 v1 v2 hC1 f1 (fun a b q => ?_) ?_ ?_ ?_))
        · rw [e4, e3, e2]; unfold xu; rw [if_neg (by omega), if_neg (by omega), if_neg (by omega)]
        · rw [e4, e3, e2]; unfold xu; rw [if_neg (by omega), if_neg (by omega), if_pos ⟨rfl, rfl⟩]
        · rw [e4, e3]; unfold xu; rw [if_neg (by omega), if_pos ⟨rfl, rfl⟩]
        · rw [e4]; simp [xu]
      · refine oN gy ?_
        unfold v_X5_rule_22
        refine oY g (z0' (z1 ?_))
        unfold v_X6_rule
        refine iY g (z1 ⟨fun _ => ?_, fun q => absurd q n1⟩)
        unfold v_X6_rule_27
        exact iN (a := nI 1) (b := nI 3000) gy (z0' (EQ.mk (k _ _ I)))
  · have R : v_X6_rule x y A L (fun r2 A2 L2 => EQ K (-1002) r2 A2 L2) := by
      unfold v_X6_rule
      exact iN g (z0 (EQ.mk (k _ _ I)))
    have e22 : ∀ s0 : Int32, v_X5_rule_22 x y s0 A L (fun r A1 L1 => v_X6_rule x y A1 L1 (fun r2 A2 L2 => EQ K r r2 A2 L2)) := fun s0 => by
      unfold v_X5_rule_22
      exact oN g (z1' R)
    refine ⟨fun _ => ?_, fun _ => ?_⟩
    · exact s_out (fun _ => e22 0) (fun _ => e22 1)
    · exact s_out (fun _ => e22 0) (fun _ => e22 1)
theorem itemAtN {n ac mo : Nat} {it : Nat → Nat} {ch : Nat} (h : HI 0 A L n ac mo it ch) {j : Nat} (hj : n ≤ j) (hj2 : j < 2 ^ 31) {post : Int32 → Prop} (p : post (-1)) : v_X1_itemAt 0 (nI j) A L post := by
  have hn := h.1
  unfold v_X1_itemAt
  rw [h.2.1]
  exact ⟨fun _ => p, fun _ => pk_le n j (fun _ => p) (fun c => absurd c (by omega))⟩
theorem op_told (I : Inv A L) (x : Int32) (k : K A L) : v_X5_told x A L (fun r => v_X6_told x A L (fun r2 => (r = r2 → K A L) ∧ (¬ r = r2 → False))) := by
  obtain ⟨n, ac, mo, nc, it, cd, T, c, hC, hR⟩ := id I
  obtain ⟨ch, h3⟩ := hC.2.2.1
  obtain ⟨r1, r2, ⟨b1, b2, b3, b4⟩, r5, r6, r7⟩ := id hR
  obtain ⟨c1, c2, c3, c4, c5, c6, c7, c8⟩ := c
  have same : ∀ r : Int32, (r = r → K A L) ∧ (¬ r = r → False) := fun r => ⟨fun _ => k, fun q => q rfl⟩
  have smallR : ¬ wI x (nI 10) (nI 15) → ¬ wI x (nI 20) (nI 29) → ∀ r : Int32, ((x.toInt < 0 ∨ 4 < x.toInt → r = -1002) ∧ (x = 0 → r = nI n) ∧ (x = 1 → r = nI ac) ∧ (x = 2 → r = nI mo) ∧ (x = 3 → r = nI nc) ∧ (x = 4 → r = nI T.length)) → v_X6_told x A L (fun r2 => (r = r2 → K A L) ∧ (¬ r = r2 → False)) := fun q1 q2 r h => by
    unfold v_X6_told
    refine iN q1 (z0 (iN q2 (z0 ⟨fun c => ?_, fun c => ?_, fun c => ?_, fun c => ?_, fun c => ?_, fun c => ?_⟩)))
    · rw [h.1 c]; exact same _
    · rw [h.2.1 c, r1]; exact same _
    · rw [h.2.2.1 c, b1]; exact same _
    · rw [h.2.2.2.1 c, b2]; exact same _
    · rw [h.2.2.2.2.1 c, b3]; exact same _
    · rw [h.2.2.2.2.2 c, r5]; exact same _
  have lit : ∀ j : Nat, j ≤ 4 → ¬ wI (nI j) (nI 10) (nI 15) ∧ ¬ wI (nI j) (nI 20) (nI 29) := fun j hj => ⟨fun q => by
    have := (wI_iff (by omega) (by omega) (by omega)).mp q; omega, fun q => by
    have := (wI_iff (by omega) (by omega) (by omega)).mp q; omega⟩
  unfold v_X5_told
  refine ⟨fun c => ?_, fun c => ?_, fun c => ?_, fun c => ?_, fun c => ?_, fun c => ?_⟩
  · by_cases g : wI x (nI 10) (nI 15)
    · obtain ⟨j, g1, g2, rfl⟩ := wI_nat (by omega) (by omega) g
      refine oY g (z0' ?_)
      rw [show (10 : Int32) = nI 10 from rfl, pk_sub g1]
      have ref : v_X6_told (nI j) A L (fun r2 => ((if j - 10 < n then nI (it (j - 10)) else -1) = r2 → K A L) ∧ (¬ (if j - 10 < n then nI (it (j - 10)) else -1) = r2 → False)) := by
        unfold v_X6_told
        refine iY g (z1 ?_)
        rw [r1, show (10 : Int32) = nI 10 from rfl, pk_sub g1]
        refine pk_le n (j - 10) (fun q => ?_) (fun q => ⟨pk_in (j - 10) 6 (by omega), ?_⟩)
        · rw [if_neg (by omega)]; exact same _
        · rw [if_pos q, nI_clamp (show j - 10 < 2 ^ 31 by omega), r2 _ q]; exact same _
      by_cases q : j - 10 < n
      · rw [if_pos q] at ref
        exact s_itemAt h3 q ref
      · rw [if_neg q] at ref
        exact itemAtN h3 (by omega) (by omega) ref
    · refine oN g (z1' ?_)
      by_cases g2 : wI x (nI 20) (nI 29)
      · obtain ⟨j, q1, q2, rfl⟩ := wI_nat (by omega) (by omega) g2
        refine oY g2 (z0' ?_)
        rw [show (20 : Int32) = nI 20 from rfl, pk_sub q1]
        have ref : v_X6_told (nI j) A L (fun r2 => ((if j - 20 < nc then nI (cd (j - 20)) else -1) = r2 → K A L) ∧ (¬ (if j - 20 < nc then nI (cd (j - 20)) else -1) = r2 → False)) := by
          unfold v_X6_told
          refine iN g (z0 (iY g2 (z1 ?_)))
          rw [b3, show (20 : Int32) = nI 20 from rfl, pk_sub q1]
          refine pk_le nc (j - 20) (fun q => ?_) (fun q => ⟨pk_in (j - 20) 10 (by omega), ?_⟩)
          · rw [if_neg (by omega)]; exact same _
          · rw [if_pos q, nI_clamp (show j - 20 < 2 ^ 31 by omega), b4 _ q]; exact same _
        unfold v_X0_cardAt
        rw [hC.2.2.2.2.1]
        refine ⟨fun q => absurd q (nI_pos (by omega)), fun _ => pk_le nc (j - 20) (fun q => ?_) (fun q => pk_lt (j - 20) 10 (fun _ => ⟨pk_in (j - 20) 10 (by omega), ?_⟩) (fun q2 => absurd q2 (by omega)))⟩
        · rw [if_neg (by omega)] at ref; exact ref
        · rw [if_pos q] at ref
          rw [nI_clamp (show j - 20 < 2 ^ 31 by omega), hC.2.2.2.2.2.1 _ q]
          exact ref
      · refine oN g2 (z1' ?_)
        refine smallR g g2 _ ⟨fun _ => rfl, fun e => ?_, fun e => ?_, fun e => ?_, fun e => ?_, fun e => ?_⟩
        all_goals (subst e; exact absurd c (by decide))
  · subst c
    rw [h3.2.1]
    exact smallR (lit 0 (by omega)).1 (lit 0 (by omega)).2 _ ⟨fun e => absurd e (by decide), fun _ => rfl, fun e => absurd e (by decide), fun e => absurd e (by decide), fun e => absurd e (by decide), fun e => absurd e (by decide)⟩
  · subst c
    rw [hC.1]
    exact smallR (lit 1 (by omega)).1 (lit 1 (by omega)).2 _ ⟨fun e => absurd e (by decide), fun e => absurd e (by decide), fun _ => rfl, fun e => absurd e (by decide), fun e => absurd e (by decide), fun e => absurd e (by decide)⟩
  · subst c
    rw [hC.2.1]
    exact smallR (lit 2 (by omega)).1 (lit 2 (by omega)).2 _ ⟨fun e => absurd e (by decide), fun e => absurd e (by decide), fun e => absurd e (by decide), fun _ => rfl, fun e => absurd e (by decide), fun e => absurd e (by decide)⟩
  · subst c
    rw [hC.2.2.2.2.1]
    exact smallR (lit 3 (by omega)).1 (lit 3 (by omega)).2 _ ⟨fun e => absurd e (by decide), fun e => absurd e (by decide), fun e => absurd e (by decide), fun e => absurd e (by decide), fun _ => rfl, fun e => absurd e (by decide)⟩
  · subst c
    rw [hC.2.2.2.2.2.2.2.1]
    exact smallR (lit 4 (by omega)).1 (lit 4 (by omega)).2 _ ⟨fun e => absurd e (by decide), fun e => absurd e (by decide), fun e => absurd e (by decide), fun e => absurd e (by decide), fun e => absurd e (by decide), fun _ => rfl⟩
end OPS
