/-! the calls: printing, the box, spans, signs -/
section OPS3
variable {A : xM} {L : xL} {K : xM → xL → Prop}
theorem wR_z0 {n ac mo : Nat} {it : Nat → Nat} (hn : n ≤ 6) (s : Nat) : wR n ac mo it s 0 = 0 := by
  have : 2 ^ n ≤ 2 ^ 6 := Nat.pow_le_pow_right (by decide) hn
  unfold wR
  split
  · rw [wW_eq (by omega), if_pos (by omega)]
  · rfl
theorem wR_leaf {n ac mo : Nat} {it : Nat → Nat} (hn : n ≤ 6) (hit : ∀ k, k < n → 1 ≤ it k ∧ it k ≤ 100) (s u : Nat) (hp : pb s = 1) (h : 0 < wR n ac mo it s u) : u ≤ 100 := by
  have hpw : 2 ^ n ≤ 2 ^ 6 := Nat.pow_le_pow_right (by decide) hn
  unfold wR at h
  split at h
  · rename_i hs
    have s1 : 1 ≤ s := Nat.pos_of_ne_zero fun e => by rw [e, show pb 0 = 0 by decide] at hp; omega
    have hb := (wb_fin s (by omega) s1).1 hp
    have w5 := (w_fin5 s (by omega)).2.1 hb
    have hkn : wb s < n := by
      refine Nat.lt_of_not_le fun hnk => ?_
      have : 2 ^ n ≤ 2 ^ wb s := Nat.pow_le_pow_right (by decide) hnk
      omega
    rw [wW_eq (by omega)] at h
    split at h
    · omega
    · first
      | (split at h
         · rename_i e; rw [e]; exact (hit _ hkn).2
         · omega)
      | (rw [if_pos hb] at h
         split at h
         · rename_i e; rw [e]; exact (hit _ hkn).2
         · omega)
  · omega
theorem IC.text {n ac mo nc : Nat} {it cd : Nat → Nat} {T T' : List Nat} {A' : xM} (h : IC n ac mo nc it cd T A L) (t : CT A A' T') : IC n ac mo nc it cd T' A' L := by
  obtain ⟨h1, h2, ⟨ch, h3⟩, ⟨n1, it1, ch1, h4⟩, h5, h6, ⟨cm, h7⟩, h8, h9, h10⟩ := h
  obtain ⟨t1, t2, e⟩ := t
  exact ⟨by rw [e _ _ (by omega) (by omega)]; exact h1, by rw [e _ _ (by omega) (by omega)]; exact h2, ⟨ch, h3.mem (fun a b q => e a b (by unfold hT at q; omega) (by unfold hT at q; omega)) (fun _ _ _ => rfl)⟩, ⟨n1, it1, ch1, h4.mem (fun a b q => e a b (by unfold hT at q; omega) (by unfold hT at q; omega)) (fun _ _ _ => rfl)⟩, by rw [e _ _ (by omega) (by omega)]; exact h5, fun k hk => by rw [e _ _ (by omega) (by omega)]; exact h6 k hk, ⟨cm, h7.of (fun a b q => e a b (by omega) (by omega))⟩, t1, t2, h10.of (fun a b q => e a b (by omega) (by omega))⟩
theorem CT.c {A0 A' : xM} {T : List Nat} (t : CT A0 A' T) : CFr A0 L A' L := ⟨fun a b c d => t.2.2 a b (by omega) (by omega), fun _ => rfl⟩
theorem IR.text {n ac mo nc : Nat} {it cd : Nat → Nat} {T T' : List Nat} {A' : xM} (h : IR n ac mo nc it cd T A L) (t : RT A A' T' []) : IR n ac mo nc it cd T' A' L := by
  obtain ⟨h1, h2, ⟨b1, b2, b3, b4⟩, h4, h5, h6⟩ := h
  obtain ⟨t1, t2, -, -, e⟩ := t
  refine ⟨by rw [e _ _ (by omega) (by omega) (by omega) (by omega)]; exact h1, fun k hk => by rw [e _ _ (by omega) (by omega) (by omega) (by omega)]; exact h2 k hk, ⟨by rw [e _ _ (by omega) (by omega) (by omega) (by omega)]; exact b1, by rw [e _ _ (by omega) (by omega) (by omega) (by omega)]; exact b2, by rw [e _ _ (by omega) (by omega) (by omega) (by omega)]; exact b3, fun k hk => by rw [e _ _ (by omega) (by omega) (by omega) (by omega)]; exact b4 k hk⟩, t1, t2, ?_⟩
  rcases h6 with h6 | ⟨h6, h7, h8⟩
  · exact Or.inl (by rw [e _ _ (by omega) (by omega) (by omega) (by omega)]; exact h6)
  · exact Or.inr ⟨by rw [e _ _ (by omega) (by omega) (by omega) (by omega)]; exact h6, by rw [e _ _ (by omega) (by omega) (by omega) (by omega)]; exact h7, h8⟩
theorem RT.r {A0 A' : xM} {T : List Nat} {S : List (Nat × Nat)} (t : RT A0 A' T S) : RFr A0 L A' L := ⟨fun a b q => t.2.2.2.2 a b (by omega) (by omega) (by omega) (by omega), fun _ _ _ => rfl⟩
theorem both_print {n ac mo nc : Nat} {it cd : Nat → Nat} {T : List Nat} (c : CM n ac mo nc it cd T) {A1 : xM} {L1 : xL} {fl : Nat → Nat → Nat} {nf : Nat → Nat} (hC1 : IC n ac mo nc it cd T A1 L1) (V : HV 0 A1 L1 (wR n ac mo it) fl nf) {s v : Nat} (s1 : 1 ≤ s) (s2 : s < 2 ^ n) (v1 : 1 ≤ v) (v2 : v < 3001) (hP : 0 < wR n ac mo it s v) {post : Int32 → xM → xL → Prop}
    (k : ∀ A2 (T' : List Nat), IC n ac mo nc it cd T' A2 L1 → CFr A1 L1 A2 L1 → T'.length ≤ 33 → (∀ A3 L3, IR n ac mo nc it cd T A3 L3 → RR (wR n ac mo it) n A3 L3 → ∀ post2 : Int32 → xM → xL → Prop, (∀ A4, IR n ac mo nc it cd T' A4 L3 → RFr A3 L3 A4 L3 → post2 (nI T'.length) A4 L3) → v_X6_printed (nI s) (nI v) A3 L3 post2) → post (nI T'.length) A2 L1) : v_X5_printWay (nI s) (nI v) A1 L1 post := by
  have hpw := c.pow
  refine c_printWay V hC1.1 (wR_z0 c.1) (wR_leaf c.1 c.2.2.2.2.2.2.1) s1 (by omega) v1 v2 hP (fun A2 t hl => k A2 _ (hC1.text t) t.c hl (fun A3 L3 hR V2 post2 k2 => ?_))
  refine r_printed V2 hR.2.2.1.1 c.2.1 (wR_z0 c.1) (wR_leaf c.1 c.2.2.2.2.2.2.1) s1 s2 v1 v2 hP (fun A4 t4 => k2 A4 (hR.text t4) t4.r)
theorem CM.text {n ac mo nc : Nat} {it cd : Nat → Nat} {T T' : List Nat} (c : CM n ac mo nc it cd T) (h : T'.length ≤ 33) : CM n ac mo nc it cd T' := ⟨c.1, c.2.1, c.2.2.1, c.2.2.2.1, c.2.2.2.2.1, c.2.2.2.2.2.1, c.2.2.2.2.2.2.1, h⟩
theorem op_print (I : Inv A L) (x : Int32) (k : ∀ A' L', Inv A' L' → K A' L') : v_X5_print x A L (fun r A1 L1 => v_X6_print x A1 L1 (fun r2 A2 L2 => EQ K r r2 A2 L2)) := by
  obtain ⟨n, ac, mo, nc, it, cd, T, c, hC, hR⟩ := id I
  have hpw := c.pow
  unfold v_X5_print
  by_cases g : wI x (nI 1) (nI 3000)
  · obtain ⟨v, v1, v2, rfl⟩ := wI_nat (by omega) (by omega) g
    refine oY g (z0 (hC.look c.2.2.2.1 (fun A1 L1 fl nf hC1 f1 V => c_reach V v1 (by omega) ?_)))
    have hR1 := hR.of f1
    rw [reach_bst c v]
    have bR := bst_R c v
    have blt := bst_lt (fun s => decide (0 < wR n ac mo it s v)) (2 ^ n)
    refine ⟨fun q => ?_, fun q => ?_⟩
    · have hb := of_decide_eq_true (bI_0.2 q)
      refine c_first V v1 (by omega) ?_
      rw [bR, if_neg hb]
      rcases blt with e | ⟨e1, e2, e3⟩
      · exact absurd e hb
      · have hP := of_decide_eq_true e3
        refine both_print c hC1 V e1 e2 v1 (by omega) hP (fun A2 T' hC2 f2 hl ref => ?_)
        have hR2 := hR1.of f2
        unfold v_X6_print
        refine iY g (z1' (hR2.look c (fun A3 L3 hR3 f3 V3 => r_first V3 v1 (by omega) ?_)))
        rw [if_neg hb]
        refine ⟨fun _ => ref A3 L3 hR3 V3 _ (fun A4 hR4 f4 => EQ.mk (k _ _ (Inv.mk (c.text hl) hC2 (f3.tr f4) hR4))), fun q => absurd (nI_pos' (by omega)) q⟩
    · have hb : bst (fun s => decide (0 < wR n ac mo it s v)) (2 ^ n) = 0 := by
        have := of_decide_eq_false (bI_0.1 q)
        omega
      unfold v_X6_print
      refine iY g (z1' (hR1.look c (fun A3 L3 hR3 f3 V3 => r_first V3 v1 (by omega) ?_)))
      rw [if_pos hb]
      exact ⟨fun q => absurd q (by decide), fun _ => EQ.mk (k _ _ (Inv.mk c hC1 f3 hR3))⟩
  · refine oN g (z1 ?_)
    unfold v_X6_print
    exact iN g (z0' (EQ.mk (k _ _ I)))
theorem op_printOf (I : Inv A L) (x y : Int32) (k : ∀ A' L', Inv A' L' → K A' L') : v_X5_printOf x y A L (fun r A1 L1 => v_X6_printOf x y A1 L1 (fun r2 A2 L2 => EQ K r r2 A2 L2)) := by
  obtain ⟨n, ac, mo, nc, it, cd, T, c, hC, hR⟩ := id I
  have hpw := c.pow
  obtain ⟨ch, h3⟩ := hC.2.2.1
  unfold v_X5_printOf v_X5_isNoWholeSet
  by_cases g0 : ∃ s, 1 ≤ s ∧ s < 2 ^ n ∧ x = nI s
  · obtain ⟨s, s1, s2, rfl⟩ := id g0
    refine ⟨fun q => absurd ((set0 (by omega)).mp q) (by omega), fun _ => s_knowsY c.1 h3.2.1 s2 (z1' (z0' ?_))⟩
    by_cases g : wI y (nI 1) (nI 3000)
    · obtain ⟨v, v1, v2, rfl⟩ := wI_nat (by omega) (by omega) g
      refine oY g (z0 (hC.look c.2.2.2.1 (fun A1 L1 fl nf hC1 f1 V => c_count (by decide) V s1 (by omega) v1 (by omega) ?_)))
      have hR1 := hR.of f1
      have hbd := wR_le (ac := ac) (mo := mo) (it := it) (s := s) (u := v) c.1
      have ez : lg_cmp (lN (wR n ac mo it s v)) 0 = 0 ↔ wR n ac mo it s v = 0 := by
        rw [lg_cmp_eq]
        exact pk_lEQ (b := 0) (by omega) (by omega)
      rw [ez]
      refine ⟨fun q => ?_, fun q => ?_⟩
      · have hP : 0 < wR n ac mo it s v := Nat.pos_of_ne_zero q
        refine both_print c hC1 V s1 s2 v1 (by omega) hP (fun A2 T' hC2 f2 hl ref => ?_)
        have hR2 := hR1.of f2
        unfold v_X6_printOf
        refine r_isSet c.1 hR2.1 (fun _ => z1 (iY g (z1' (hR2.look c (fun A3 L3 hR3 f3 V3 => ?_))))) (fun q => absurd g0 q)
        have row := r_row V3 s2 v1 (show v < 3001 by omega)
        rw [row.2, V3.lp]
        exact ⟨row.1, fun q => absurd q (by omega), fun _ => ref A3 L3 hR3 V3 _ (fun A4 hR4 f4 => EQ.mk (k _ _ (Inv.mk (c.text hl) hC2 (f3.tr f4) hR4)))⟩
      · unfold v_X6_printOf
        refine r_isSet c.1 hR1.1 (fun _ => z1 (iY g (z1' (hR1.look c (fun A3 L3 hR3 f3 V3 => ?_))))) (fun q => absurd g0 q)
        have row := r_row V3 s2 v1 (show v < 3001 by omega)
        rw [row.2, V3.lp]
        exact ⟨row.1, fun _ => EQ.mk (k _ _ (Inv.mk c hC1 f3 hR3)), fun q2 => absurd q q2⟩
    · refine oN g (z1 ?_)
      unfold v_X6_printOf
      exact r_isSet c.1 hR.1 (fun _ => z1 (iN g (z0' (EQ.mk (k _ _ I))))) (fun q => absurd g0 q)
  · have ref : v_X6_printOf x y A L (fun r2 A2 L2 => EQ K (-1002) r2 A2 L2) := by
      unfold v_X6_printOf
      exact r_isSet c.1 hR.1 (fun q => absurd q g0) (fun _ => z0 (EQ.mk (k _ _ I)))
    refine ⟨fun _ => z1' ref, fun q => ?_⟩
    refine s_knowsN c.1 h3.2.1 (fun w => g0 ?_) (z0' (z1' ref))
    obtain ⟨s, s2, e⟩ := w
    exact ⟨s, Nat.pos_of_ne_zero fun e2 => q (by rw [e, e2]; rfl), s2, e⟩
theorem op_out (I : Inv A L) (x : Int32) (k : K A L) : v_X5_out x A L (fun r => v_X6_out x A L (fun r2 => (r = r2 → K A L) ∧ (¬ r = r2 → False))) := by
  obtain ⟨n, ac, mo, nc, it, cd, T, c, hC, hR⟩ := id I
  have hl := c.2.2.2.2.2.2.2
  have h18 := hC.2.2.2.2.2.2.2.1
  have h19 := hC.2.2.2.2.2.2.2.2.1
  obtain ⟨r1, r2, r4, r5, r6, r7⟩ := hR
  unfold v_X5_out v_X2_byteAt
  rw [h18]
  by_cases g : wI x 0 (nI T.length - 1)
  · obtain ⟨i, hi, rfl⟩ := wI_less (by omega) g
    refine ⟨fun q => absurd q (nI_pos (by omega)), fun _ => pk_le T.length i (fun q => absurd q (by omega)) (fun _ => pk_lt i 33 (fun _ => ⟨pk_in i 33 (by omega), ?_⟩) (fun q => absurd q (by omega)))⟩
    rw [nI_clamp (show i < 2 ^ 31 by omega), h19 i hi]
    unfold v_X6_out
    rw [r5]
    refine iY g (z1 ⟨pk_in i 100 (by omega), ?_⟩)
    rw [nI_clamp (show i < 2 ^ 31 by omega), r6 i hi]
    exact ⟨fun _ => k, fun q => q rfl⟩
  · have ref : v_X6_out x A L (fun r2 => ((-1 : Int32) = r2 → K A L) ∧ (¬ (-1 : Int32) = r2 → False)) := by
      unfold v_X6_out
      rw [r5]
      exact iN g (z0 ⟨fun _ => k, fun q => q rfl⟩)
    refine ⟨fun _ => ref, fun q => ⟨fun _ => ref, fun q2 => ?_⟩⟩
    obtain ⟨j, hj, rfl⟩ := nI_of q
    exact absurd (wI_less_of (Nat.lt_of_not_le fun w => q2 (nI_le w hj)) (by omega)) g
theorem op_card (I : Inv A L) (x : Int32) (k : ∀ A' L', Inv A' L' → K A' L') : v_X5_card x A L (fun r A1 L1 => v_X6_card x A1 L1 (fun r2 A2 L2 => EQ K r r2 A2 L2)) := by
  obtain ⟨n, ac, mo, nc, it, cd, T, c, hC, hR⟩ := id I
  obtain ⟨h1, h2, ⟨ch, h3⟩, ⟨n1, it1, ch1, h4⟩, h5, h6, -, h8, h9, h10⟩ := id hC
  obtain ⟨r1, r2, ⟨b1, b2, b3, b4⟩, r5, r6, r7⟩ := id hR
  have c' := c
  obtain ⟨c1, c2, c3, c4, c5, c6, c7, c8⟩ := c'
  unfold v_X5_card
  rw [h5]
  by_cases g : wI x (nI 1) (nI 100)
  · obtain ⟨v, v1, v2, rfl⟩ := wI_nat (by omega) (by omega) g
    refine oY g (z0 (pk_lt nc 10 (fun q => ?_) (fun q => ?_)))
    · unfold v_X0_put
      intro x2 e2
      rw [h5] at e2
      subst e2
      refine ⟨fun q2 => absurd q2 (nI_pos (by omega)), fun _ => pk_lt nc 10 (fun _ => ⟨pk_in nc 10 q, fun A5 e5 A6 e6 => ?_⟩) (fun q2 => absurd q2 (by omega))⟩
      rw [nI_clamp (show nc < 2 ^ 31 by omega)] at e5
      have a14 : A5 14 2 = nI nc := by rw [e5]; unfold xu; rw [if_neg (by omega)]; exact h5
      rw [a14, nI_1] at e6
      unfold v_X0_forgetTallies
      intro A7 e7
      have fr : ∀ a b, ¬ (a = 15 ∧ b = nc) → ¬ (a = 14 ∧ (b = 2 ∨ b = 5)) → A7 a b = A a b := fun a b u1 u2 => by
        rw [e7, e6, e5]; unfold xu
        rw [if_neg (by omega), if_neg (by omega), if_neg u1]
      have hC1 : IC n ac mo (nc + 1) it (uF cd nc v) T A7 L := by
        refine ⟨by rw [fr _ _ (by omega) (by omega)]; exact h1, by rw [fr _ _ (by omega) (by omega)]; exact h2, ⟨ch, h3.mem (fun a b u => fr a b (by unfold hT at u; omega) (by unfold hT at u; omega)) (fun _ _ _ => rfl)⟩, ⟨n1, it1, ch1, h4.mem (fun a b u => fr a b (by unfold hT at u; omega) (by unfold hT at u; omega)) (fun _ _ _ => rfl)⟩, ?_, fun j hj => ?_, ⟨0, by rw [e7]; simp [xu]; rfl, by omega, fun m a b d => by simp at d⟩, by rw [fr _ _ (by omega) (by omega)]; exact h8, fun i hi => by rw [fr _ _ (by omega) (by omega)]; exact h9 i hi, h10.of (fun a b u => fr a b (by omega) (by omega))⟩
        · rw [e7, e6]; unfold xu; rw [if_neg (by omega), if_pos ⟨rfl, rfl⟩]
        · rw [e7, e6, e5]; unfold xu uF
          rw [if_neg (by omega), if_neg (by omega)]
          by_cases e : j = nc
          · rw [if_pos ⟨rfl, e⟩, if_pos e]
          · rw [if_neg (by omega), if_neg e]; exact h6 j (by omega)
      obtain ⟨q1, q2, ⟨d1, d2, d3, d4⟩, q5, q6, q7⟩ : IR n ac mo nc it cd T A7 L := hR.of ⟨fun a b u1 u2 => fr a b (by omega) (by omega), fun _ => rfl⟩
      unfold v_X6_card
      refine iY g (z1' ?_)
      rw [d3]
      refine ⟨fun _ => ⟨pk_in nc 10 q, fun B1 f1 B2 f2 => ?_⟩, fun w => ?_⟩
      · rw [nI_clamp (show nc < 2 ^ 31 by omega)] at f1
        have b4' : B1 23 4 = nI nc := by rw [f1]; unfold xu; rw [if_neg (by omega)]; exact d3
        rw [b4', nI_1] at f2
        have b24 : B2 23 4 = nI (nc + 1) := by rw [f2]; simp [xu]
        rw [b24, nI_pred]
        have fb : ∀ a b, ¬ (a = 25 ∧ b = nc) → ¬ (a = 23 ∧ b = 4) → B2 a b = A7 a b := fun a b u1 u2 => by
          rw [f2, f1]; unfold xu
          rw [if_neg u2, if_neg u1]
        refine EQ.mk (k _ _ (Inv.mk (n := n) (ac := ac) (mo := mo) (nc := nc + 1) (it := it) (cd := uF cd nc v) (T := T) ⟨c1, c2, c3, c4, by omega, fun j hj => ?_, c7, c8⟩ hC1 ⟨fun a b u => fb a b (by omega) (by omega), fun _ _ _ => rfl⟩ ⟨by rw [fb _ _ (by omega) (by omega)]; exact q1, fun j hj => by rw [fb _ _ (by omega) (by omega)]; exact q2 j hj, ⟨by rw [fb _ _ (by omega) (by omega)]; exact d1, by rw [fb _ _ (by omega) (by omega)]; exact d2, b24, fun j hj => ?_⟩, by rw [fb _ _ (by omega) (by omega)]; exact q5, fun i hi => by rw [fb _ _ (by omega) (by omega)]; exact q6 i hi, ?_⟩))
        · unfold uF
          split
          · exact ⟨v1, v2⟩
          · exact c6 j (by omega)
        · rw [f2, f1]; unfold xu uF
          rw [if_neg (by omega)]
          by_cases e : j = nc
          · rw [if_pos ⟨rfl, e⟩, if_pos e]
          · rw [if_neg (by omega), if_neg e]; exact d4 j (by omega)
        · rcases q7 with w | ⟨w1, w2, w3⟩
          · exact Or.inl (by rw [fb _ _ (by omega) (by omega)]; exact w)
          · exact Or.inr ⟨by rw [fb _ _ (by omega) (by omega)]; exact w1, by rw [fb _ _ (by omega) (by omega)]; exact w2, w3⟩
      · have := (nI_eq (a := nc) (b := 10) (by omega) (by omega)).mp w
        omega
    · unfold v_X6_card
      refine iY g (z1' ?_)
      rw [b3]
      exact ⟨fun w => absurd (by rw [show nc = 10 by omega]; rfl) w, fun _ => EQ.mk (k _ _ I)⟩
  · refine oN g (z1 ?_)
    unfold v_X6_card
    exact iN g (z0' (EQ.mk (k _ _ I)))
theorem op_empty (I : Inv A L) (k : ∀ A' L', Inv A' L' → K A' L') : v_X5_empty A L (fun r A1 L1 => v_X6_empty A1 L1 (fun r2 A2 L2 => EQ K r r2 A2 L2)) := by
  obtain ⟨n, ac, mo, nc, it, cd, T, c, hC, hR⟩ := id I
  obtain ⟨h1, h2, ⟨ch, h3⟩, ⟨n1, it1, ch1, h4⟩, h5, h6, -, h8, h9, h10⟩ := id hC
  obtain ⟨c1, c2, c3, c4, c5, c6, c7, c8⟩ := c
  unfold v_X5_empty v_X0_clear
  intro x1 e1 A2 e2
  unfold v_X0_forgetTallies
  intro A3 e3
  rw [h5] at e1
  subst e1
  have fr : ∀ a b, ¬ (a = 14 ∧ (b = 2 ∨ b = 5)) → A3 a b = A a b := fun a b u2 => by
    rw [e3, e2]; unfold xu
    rw [if_neg (by omega), if_neg (by omega)]
  have hC1 : IC n ac mo 0 it cd T A3 L := by
    refine ⟨by rw [fr _ _ (by omega)]; exact h1, by rw [fr _ _ (by omega)]; exact h2, ⟨ch, h3.mem (fun a b u => fr a b (by unfold hT at u; omega)) (fun _ _ _ => rfl)⟩, ⟨n1, it1, ch1, h4.mem (fun a b u => fr a b (by unfold hT at u; omega)) (fun _ _ _ => rfl)⟩, ?_, fun j hj => by omega, ⟨0, by rw [e3]; simp [xu]; rfl, by omega, fun m a b d => by simp at d⟩, by rw [fr _ _ (by omega)]; exact h8, fun i hi => by rw [fr _ _ (by omega)]; exact h9 i hi, h10.of (fun a b u => fr a b (by omega))⟩
    rw [e3, e2]; unfold xu; rw [if_neg (by omega), if_pos ⟨rfl, rfl⟩]; rfl
  obtain ⟨q1, q2, ⟨d1, d2, d3, d4⟩, q5, q6, q7⟩ : IR n ac mo nc it cd T A3 L := hR.of ⟨fun a b u1 u2 => fr a b (by omega), fun _ => rfl⟩
  unfold v_X6_empty
  intro x2 e4 B1 f1
  rw [d3] at e4
  subst e4
  have fb : ∀ a b, ¬ (a = 23 ∧ b = 4) → B1 a b = A3 a b := fun a b u2 => by
    rw [f1]; unfold xu
    rw [if_neg u2]
  refine EQ.mk (k _ _ (Inv.mk (n := n) (ac := ac) (mo := mo) (nc := 0) (it := it) (cd := cd) (T := T) ⟨c1, c2, c3, c4, by omega, fun j hj => by omega, c7, c8⟩ hC1 ⟨fun a b u => fb a b (by omega), fun _ _ _ => rfl⟩ ⟨by rw [fb _ _ (by omega)]; exact q1, fun j hj => by rw [fb _ _ (by omega)]; exact q2 j hj, ⟨by rw [fb _ _ (by omega)]; exact d1, by rw [fb _ _ (by omega)]; exact d2, by rw [f1]; simp [xu]; rfl, fun j hj => by omega⟩, by rw [fb _ _ (by omega)]; exact q5, fun i hi => by rw [fb _ _ (by omega)]; exact q6 i hi, ?_⟩))
  rcases q7 with w | ⟨w1, w2, w3⟩
  · exact Or.inl (by rw [fb _ _ (by omega)]; exact w)
  · exact Or.inr ⟨by rw [fb _ _ (by omega)]; exact w1, by rw [fb _ _ (by omega)]; exact w2, w3⟩
theorem IC.drawn {n ac mo nc : Nat} {it cd : Nat → Nat} {T : List Nat} (h : IC n ac mo nc it cd T A L) (c : CM n ac mo nc it cd T) {m : Nat} (m1 : 1 ≤ m) (m2 : m ≤ 4) {post : xM → xL → Prop} (k : ∀ A' L', IC n ac mo nc it cd T A' L' → CFr A L A' L' → A' 17 m = nI (dC m (2 ^ nc)) → (∀ v, 1 ≤ v → v < 3001 → A' (196 + m) v = nI (dR ac mo nc cd m v (2 ^ nc))) → post A' L') : v_X0_countDraws (nI m) A L post := by
  obtain ⟨h1, h2, ⟨ch, h3⟩, ⟨n1, it1, ch1, h4⟩, h5, h6, ⟨cm, h7⟩, h8, h9, h10⟩ := h
  refine c_draws h4 h1 h2 c.2.2.2.1 h5 c.2.2.2.2.1 (fun j hj => ⟨h6 j hj, c.2.2.2.2.2.1 j hj⟩) h7 m1 m2 (fun A' L' n' it' ch' cm' q1 q2 q3 e f => ?_)
  have q4 := q2.2.2 m m1 m2 q3
  refine k A' L' ⟨?_, ?_, ⟨ch, h3.mem (fun a b u => ?_) (fun a b u => f a b (by unfold hL at u ⊢; omega))⟩, ⟨n', it', ch', q1⟩, ?_, fun j hj => ?_, ⟨cm', q2⟩, ?_, fun i hi => ?_, h10.of (fun a b u => ?_)⟩ ⟨fun a b u1 u2 => ?_, fun b => f 28 b (by unfold hL; omega)⟩ q4.1 q4.2
  · rw [e _ _ (by unfold hT; omega) (by omega) (by omega) (by omega)]; exact h1
  · rw [e _ _ (by unfold hT; omega) (by omega) (by omega) (by omega)]; exact h2
  · exact e a b (by unfold hT at u ⊢; omega) (by unfold hT at u; omega) (by unfold hT at u; omega) (by unfold hT at u; omega)
  · rw [e _ _ (by unfold hT; omega) (by omega) (by omega) (by omega)]; exact h5
  · rw [e _ _ (by unfold hT; omega) (by omega) (by omega) (by omega)]; exact h6 j hj
  · rw [e _ _ (by unfold hT; omega) (by omega) (by omega) (by omega)]; exact h8
  · rw [e _ _ (by unfold hT; omega) (by omega) (by omega) (by omega)]; exact h9 i hi
  · exact e a b (by unfold hT; omega) (by omega) (by omega) (by omega)
  · exact e a b (by unfold hT; omega) (by omega) (by omega) (by omega)
theorem IR.drawn {n ac mo nc : Nat} {it cd : Nat → Nat} {T : List Nat} {A' : xM} {L' : xL} (h : IR n ac mo nc it cd T A L) (e : ∀ a b, a ≠ 27 → a ≠ 29 → a ≠ 30 → a ≠ 33 → ¬ (a = 23 ∧ (b = 13 ∨ b = 9)) → A' a b = A a b) (f : ∀ a b, a ≠ 28 → L' a b = L a b) (g : A' 23 13 = 0 ∨ (A' 23 13 = A 23 13 ∧ A' 23 9 = A 23 9 ∧ L' = L)) : IR n ac mo nc it cd T A' L' ∧ RFr A L A' L' := by
  obtain ⟨h1, h2, h3, h4, h5, h6⟩ := h
  refine ⟨⟨by rw [e _ _ (by omega) (by omega) (by omega) (by omega) (by omega)]; exact h1, fun k hk => by rw [e _ _ (by omega) (by omega) (by omega) (by omega) (by omega)]; exact h2 k hk, h3.of e, by rw [e _ _ (by omega) (by omega) (by omega) (by omega) (by omega)]; exact h4, fun i hi => by rw [e _ _ (by omega) (by omega) (by omega) (by omega) (by omega)]; exact h5 i hi, ?_⟩, fun a b u => e a b (by omega) (by omega) (by omega) (by omega) (by omega), f⟩
  rcases g with g | ⟨g1, g2, g3⟩
  · exact Or.inl g
  · rcases h6 with w | ⟨w1, w2, w3⟩
    · exact Or.inl (g1.trans w)
    · exact Or.inr ⟨g1.trans w1, g2.trans w2, by rw [g3]; exact w3⟩
theorem op_draws (I : Inv A L) (x y z : Int32) (k : ∀ A' L', Inv A' L' → K A' L') : v_X5_draws x y z A L (fun r A1 L1 => v_X6_draws x y z A1 L1 (fun r2 A2 L2 => EQ K r r2 A2 L2)) := by
  obtain ⟨n, ac, mo, nc, it, cd, T, c, hC, hR⟩ := id I
  have hp : 2 ^ nc ≤ 2 ^ 10 := Nat.pow_le_pow_right (by decide) c.2.2.2.2.1
  unfold v_X5_draws
  by_cases g1 : wI x (nI 1) (nI 4)
  · refine oY g1 (z0' ?_)
    by_cases g2 : wI y (nI 1) (nI 3000)
    · refine oY g2 (z0' ?_)
      by_cases g3 : wI z (nI 0) (nI 3)
      · obtain ⟨m, m1, m2, rfl⟩ := wI_nat (by omega) (by omega) g1
        obtain ⟨v, v1, v2, rfl⟩ := wI_nat (by omega) (by omega) g2
        obtain ⟨w, _, w2, rfl⟩ := wI_nat (by omega) (by omega) g3
        refine oY g3 (z0 (hC.drawn c m1 m2 (fun A1 L1 hC1 f1 t1 t2 => c_drawsOf m1 m2 (c_drawsR m1 m2 v1 (by omega) ?_))))
        rw [t1, t2 v v1 (by omega)]
        have hR1 := hR.of f1
        have ref : ∀ r : Int32, r = dA (dC m (2 ^ nc)) (dR ac mo nc cd m v (2 ^ nc)) w → v_X6_draws (nI m) (nI v) (nI w) A1 L1 (fun r2 A2 L2 => EQ K r r2 A2 L2) := fun r er => by
          unfold v_X6_draws
          refine iY g1 (z1 (iY g2 (z1 (iY g3 (z1' (r_draws hR1.2.2.1 c.2.1 c.2.2.2.1 c.2.2.2.2.1 c.2.2.2.2.2.1 m1 m2 v1 (by omega) (by omega) (fun A2 L2 F => ?_)))))))
          rw [er]
          have D := hR1.drawn F.2.1 F.2.2 (by
            rcases F.1 with q | ⟨q1, q2⟩
            · exact Or.inl q
            · exact Or.inr ⟨by rw [q1], by rw [q1], q2⟩)
          exact EQ.mk (k _ _ (Inv.mk c hC1 D.2 D.1))
        have b1 := dC_le (n := m) (i := 2 ^ nc)
        have b2 := dR_le (ac := ac) (mo := mo) (nc := nc) (cd := cd) (n := m) (v := v) (i := 2 ^ nc)
        generalize dC m (2 ^ nc) = t at b1 ref ⊢
        generalize dR ac mo nc cd m v (2 ^ nc) = h at b2 ref ⊢
        refine c_gcd (by omega) (by omega) ?_
        unfold dA at ref
        have gl : t ≠ 0 → 0 < Nat.gcd t h ∧ Nat.gcd t h < 2 ^ 31 := fun q => ⟨Nat.gcd_pos_of_pos_left h (by omega), by have := Nat.gcd_le_left h (show 0 < t by omega); omega⟩
        refine ⟨fun q => ?_, fun q => ?_, fun q => ?_, fun q => ?_⟩
        · rw [nI_toInt (by omega)] at q
          have hw : w = 3 := by omega
          subst hw
          by_cases t0 : t = 0
          · rw [if_pos t0]
            refine ⟨fun q2 => absurd rfl q2, fun _ => ref _ ?_⟩
            simp [t0]
          · rw [if_neg t0]
            have hn := nI_ne0 (gl t0).1 (gl t0).2
            refine ⟨fun _ => ⟨hn, ref _ ?_⟩, fun q2 => absurd q2 hn⟩
            rw [pk_div (by omega) (gl t0).1 (gl t0).2]
            simp [t0]
        · have hw : w = 0 := (nI_eq (b := 0) (by omega) (by omega)).mp q
          exact ref _ (by rw [if_pos hw])
        · have hw : w = 1 := (nI_eq (b := 1) (by omega) (by omega)).mp q
          exact ref _ (by rw [if_neg (by omega), if_pos hw])
        · have hw : w = 2 := (nI_eq (b := 2) (by omega) (by omega)).mp q
          subst hw
          by_cases t0 : t = 0
          · rw [if_pos t0]
            refine ⟨fun q2 => absurd rfl q2, fun _ => ref _ ?_⟩
            simp [t0]
          · rw [if_neg t0]
            have hn := nI_ne0 (gl t0).1 (gl t0).2
            refine ⟨fun _ => ⟨hn, ref _ ?_⟩, fun q2 => absurd q2 hn⟩
            rw [pk_div (by omega) (gl t0).1 (gl t0).2]
            simp [t0]
      · refine oN g3 (z1 ?_)
        unfold v_X6_draws
        exact iY g1 (z1 (iY g2 (z1 (iN g3 (z0' (EQ.mk (k _ _ I)))))))
    · refine oN g2 (z1' ?_)
      unfold v_X6_draws
      exact iY g1 (z1 (iN g2 (z0 (EQ.mk (k _ _ I)))))
  · refine oN g1 (z1' ?_)
    unfold v_X6_draws
    exact iN g1 (z0 (EQ.mk (k _ _ I)))
theorem op_most (I : Inv A L) (x y : Int32) (k : ∀ A' L', Inv A' L' → K A' L') : v_X5_most x y A L (fun r A1 L1 => v_X6_most x y A1 L1 (fun r2 A2 L2 => EQ K r r2 A2 L2)) := by
  obtain ⟨n, ac, mo, nc, it, cd, T, c, hC, hR⟩ := id I
  have hp : 2 ^ nc ≤ 2 ^ 10 := Nat.pow_le_pow_right (by decide) c.2.2.2.2.1
  unfold v_X5_most
  by_cases g1 : wI x (nI 1) (nI 4)
  · refine oY g1 (z0' ?_)
    by_cases g3 : wI y (nI 0) (nI 1)
    · obtain ⟨m, m1, m2, rfl⟩ := wI_nat (by omega) (by omega) g1
      obtain ⟨w, _, w2, rfl⟩ := wI_nat (by omega) (by omega) g3
      refine oY g3 (z0 (hC.drawn c m1 m2 (fun A1 L1 hC1 f1 t1 t2 => ?_)))
      have hR1 := hR.of f1
      refine c_most (f := fun v => dR ac mo nc cd m v (2 ^ nc)) m1 m2 (by omega) (fun v v1 v2 => ⟨t2 v v1 (by omega), ?_⟩) ?_
      · have b2 := dR_le (ac := ac) (mo := mo) (nc := nc) (cd := cd) (n := m) (v := v) (i := 2 ^ nc)
        show dR ac mo nc cd m v (2 ^ nc) < 2 ^ 30
        omega
      · unfold v_X6_most
        refine iY g1 (z1 (iY g3 (z1' (r_most hR1.2.2.1 c.2.1 c.2.2.2.1 c.2.2.2.2.1 c.2.2.2.2.2.1 m1 m2 (by omega) (fun A2 L2 F1 F2 F3 => ?_)))))
        have D := hR1.drawn F2 F3 F1
        exact EQ.mk (k _ _ (Inv.mk c hC1 D.2 D.1))
    · refine oN g3 (z1 ?_)
      unfold v_X6_most
      exact iY g1 (z1 (iN g3 (z0' (EQ.mk (k _ _ I)))))
  · refine oN g1 (z1' ?_)
    unfold v_X6_most
    exact iN g1 (z0 (EQ.mk (k _ _ I)))
theorem op_span (I : Inv A L) (x y z : Int32) (k : ∀ A' L', Inv A' L' → K A' L') : v_X5_span x y z A L (fun r A1 L1 => v_X6_span x y z A1 L1 (fun r2 A2 L2 => EQ K r r2 A2 L2)) := by
  obtain ⟨n, ac, mo, nc, it, cd, T, c, hC, hR⟩ := id I
  unfold v_X5_span
  by_cases g1 : wI x (nI 1) (nI 3)
  · refine oY g1 (z0' ?_)
    by_cases g2 : wI y (nI 1) (nI 100)
    · refine oY g2 (z0' ?_)
      obtain ⟨m, m1, m2, rfl⟩ := wI_nat (by omega) (by omega) g1
      obtain ⟨v, v1, v2, rfl⟩ := wI_nat (by omega) (by omega) g2
      by_cases g3 : wI z 0 (nI m - 1)
      · obtain ⟨i, hi, rfl⟩ := wI_less (by omega) g3
        obtain ⟨n1, it1, ch1, h4⟩ := hC.2.2.2.1
        refine oY g3 (z0 (c_firstSpan h4 hC.1 hC.2.1 c.2.2.2.1 m1 m2 v2 (fun M A1 L1 n' it' ch' S1 q1 q2 => ?_)))
        have hC1 := hC.heap1 q1 q2
        have hR1 := hR.of (q2.c (by decide))
        refine c_spanNumber (n := m) S1.1 (by rcases S1.2.2 with e | e; exact Or.inl e; exact Or.inr e.1) hi m2 ?_
        unfold v_X6_span
        refine iY g1 (z1 (iY g2 (z1 (iY g3 (z1' (r_span hR1.2.2.1 c.2.1 c.2.2.2.1 m1 m2 v2 hi (fun M' A2 L2 S2 F1 F2 F3 => ?_)))))))
        rw [S1.one m1 S2]
        have D := hR1.drawn (fun a b u1 u2 u3 _ u5 => F2 a b u1 u2 u3 u5) F3 (Or.inl F1)
        exact EQ.mk (k _ _ (Inv.mk c hC1 D.2 D.1))
      · refine oN g3 (z1 ?_)
        unfold v_X6_span
        exact iY g1 (z1 (iY g2 (z1 (iN g3 (z0' (EQ.mk (k _ _ I)))))))
    · refine oN g2 (z1' ?_)
      unfold v_X6_span
      exact iY g1 (z1 (iN g2 (z0 (EQ.mk (k _ _ I)))))
  · refine oN g1 (z1' ?_)
    unfold v_X6_span
    exact iN g1 (z0 (EQ.mk (k _ _ I)))
theorem op_signs (I : Inv A L) (x y : Int32) (k : ∀ A' L', Inv A' L' → K A' L') : v_X5_signs x y A L (fun r A1 L1 => v_X6_signs x y A1 L1 (fun r2 A2 L2 => EQ K r r2 A2 L2)) := by
  obtain ⟨n, ac, mo, nc, it, cd, T, c, hC, hR⟩ := id I
  unfold v_X5_signs
  by_cases g1 : wI x (nI 1) (nI 100)
  · refine oY g1 (z0' ?_)
    by_cases g2 : wI y (nI 0) (nI 5040)
    · obtain ⟨a, a1, a2, rfl⟩ := wI_nat (by omega) (by omega) g1
      obtain ⟨b, _, b2, rfl⟩ := wI_nat (by omega) (by omega) g2
      refine oY g2 (z0 ?_)
      -- the reference
      have ref : ∀ A1, IC n ac mo nc it cd T A1 L → IR n ac mo nc it cd T A1 L → v_X6_signs (nI a) (nI b) A1 L (fun r2 A2 L2 => EQ K (nI ((wZ a).1 b) - 1) r2 A2 L2) := fun A1 hC1 hR1 => by
        unfold v_X6_signs
        refine iY g1 (z1 (iY g2 (z1' (r_signs a1 a2 b2 (fun A2 e => ?_)))))
        obtain ⟨q1, q2, ⟨d1, d2, d3, d4⟩, q5, q6, q7⟩ := hR1
        refine EQ.mk (k _ _ (Inv.mk c hC1 ⟨fun a b u => e a b (by omega) (by omega), fun _ _ _ => rfl⟩ ⟨by rw [e _ _ (by omega) (by omega)]; exact q1, fun j hj => by rw [e _ _ (by omega) (by omega)]; exact q2 j hj, ⟨by rw [e _ _ (by omega) (by omega)]; exact d1, by rw [e _ _ (by omega) (by omega)]; exact d2, by rw [e _ _ (by omega) (by omega)]; exact d3, fun j hj => by rw [e _ _ (by omega) (by omega)]; exact d4 j hj⟩, by rw [e _ _ (by omega) (by omega)]; exact q5, fun i hi => by rw [e _ _ (by omega) (by omega)]; exact q6 i hi, ?_⟩))
        rcases q7 with w | ⟨w1, w2, w3⟩
        · exact Or.inl (by rw [e _ _ (by omega) (by omega)]; exact w)
        · exact Or.inr ⟨by rw [e _ _ (by omega) (by omega)]; exact w1, by rw [e _ _ (by omega) (by omega)]; exact w2, w3⟩
      -- the walk
      have walk : v_X4_walkFrom (nI a) A L (fun A4 L5 => v_X4_stepsBetween_26 (nI b) A4 L5 (fun r A1 L1 => v_X6_signs (nI a) (nI b) A1 L1 (fun r2 A2 L2 => EQ K r r2 A2 L2))) := by
        refine c_walk (by omega) (fun A1 w1 w2 w3 => ?_)
        unfold v_X4_stepsBetween_26
        refine ⟨pk_in b 5041 (by omega), ?_⟩
        rw [nI_clamp (show b < 2 ^ 31 by omega), w1 b b2]
        obtain ⟨h1, h2, ⟨ch, h3⟩, ⟨n1, it1, ch1, h4⟩, h5, h6, ⟨cm, h7⟩, h8, h9, h10⟩ := id hC
        refine ref A1 ⟨by rw [w3 _ _ (by omega) (by omega) (by omega)]; exact h1, by rw [w3 _ _ (by omega) (by omega) (by omega)]; exact h2, ⟨ch, h3.mem (fun a b u => w3 a b (by unfold hT at u; omega) (by unfold hT at u; omega) (by unfold hT at u; omega)) (fun _ _ _ => rfl)⟩, ⟨n1, it1, ch1, h4.mem (fun a b u => w3 a b (by unfold hT at u; omega) (by unfold hT at u; omega) (by unfold hT at u; omega)) (fun _ _ _ => rfl)⟩, by rw [w3 _ _ (by omega) (by omega) (by omega)]; exact h5, fun j hj => by rw [w3 _ _ (by omega) (by omega) (by omega)]; exact h6 j hj, ⟨cm, h7.of (fun a b u => w3 a b (by omega) (by omega) (by omega))⟩, by rw [w3 _ _ (by omega) (by omega) (by omega)]; exact h8, fun i hi => by rw [w3 _ _ (by omega) (by omega) (by omega)]; exact h9 i hi, Or.inr ⟨a, a1, a2, w2, w1⟩⟩ (hR.of ⟨fun a b u1 u2 => w3 a b (by omega) (by omega) (by omega), fun _ => rfl⟩)
      unfold v_X4_stepsBetween
      refine oY g2 (z0 ⟨fun q => ?_, fun _ => walk⟩)
      rcases hC.2.2.2.2.2.2.2.2.2 with e | ⟨a', e1, e2, e3, e4⟩
      · rw [e] at q
        have := congrArg Int32.toInt q
        rw [nI_toInt (by omega), show (-1 : Int32).toInt = -1 by decide] at this
        omega
      · rw [e3] at q
        have : a = a' := (nI_eq (by omega) (by omega)).mp q
        subst this
        unfold v_X4_stepsBetween_26
        refine ⟨pk_in b 5041 (by omega), ?_⟩
        rw [nI_clamp (show b < 2 ^ 31 by omega), e4 b b2]
        exact ref A hC hR
    · refine oN g2 (z1 ?_)
      unfold v_X6_signs
      exact iY g1 (z1 (iN g2 (z0' (EQ.mk (k _ _ I)))))
  · refine oN g1 (z1' ?_)
    unfold v_X6_signs
    exact iN g1 (z0 (EQ.mk (k _ _ I)))
end OPS3
