theorem wc_le4 (ac : Nat) (f : Bool) (x y v : Nat) : wc ac f x y v ≤ 4 := by
  unfold wc
  repeat' split
  all_goals omega
theorem wg_le8 (ac mo x y v : Nat) : wg ac mo x y v ≤ 8 := by
  have h1 := wc_le4 ac true x y v
  have h2 := wc_le4 ac false y x v
  unfold wg
  split <;> omega
/-- the share of the pairs of two lists -/
def jT (ac mo : Nat) (p1 p2 : Nat → Nat) (x y u : Nat) : Nat := p1 x * p2 y * wg ac mo x y u
def jP (ac mo : Nat) (p1 p2 f1 f2 : Nat → Nat) (n2 i j u : Nat) : Nat := fb_sm (fun a => fb_sm (fun b => jT ac mo p1 p2 (f1 a) (f2 b) u) n2) i + fb_sm (fun b => jT ac mo p1 p2 (f1 i) (f2 b) u) j
def jS (ac mo : Nat) (p1 p2 : Nat → Nat) (u : Nat) : Nat := fb_sm (fun x => fb_sm (fun y => jT ac mo p1 p2 x y u) 3001) 3001
theorem jT_0l {ac mo : Nat} {p1 p2 : Nat → Nat} {x y u : Nat} (h : p1 x = 0) : jT ac mo p1 p2 x y u = 0 := by unfold jT; rw [h]; simp
theorem jT_0r {ac mo : Nat} {p1 p2 : Nat → Nat} {x y u : Nat} (h : p2 y = 0) : jT ac mo p1 p2 x y u = 0 := by unfold jT; rw [h]; simp
theorem jP_tot {ac mo : Nat} {p1 p2 f1 f2 : Nat → Nat} {n1 n2 : Nat} (r1 : ∀ i, i < n1 → f1 i < 3001) (i1 : ∀ i j, i < n1 → j < n1 → f1 i = f1 j → i = j) (a1 : ∀ v, v < 3001 → (∀ i, i < n1 → f1 i ≠ v) → p1 v = 0) (r2 : ∀ i, i < n2 → f2 i < 3001) (i2 : ∀ i j, i < n2 → j < n2 → f2 i = f2 j → i = j) (a2 : ∀ v, v < 3001 → (∀ i, i < n2 → f2 i ≠ v) → p2 v = 0) (u : Nat) : fb_sm (fun a => fb_sm (fun b => jT ac mo p1 p2 (f1 a) (f2 b) u) n2) n1 = jS ac mo p1 p2 u := by
  unfold jS
  have e : ∀ a, a < n1 → fb_sm (fun b => jT ac mo p1 p2 (f1 a) (f2 b) u) n2 = fb_sm (fun y => jT ac mo p1 p2 (f1 a) y u) 3001 := fun a _ => sm_list r2 i2 (fun y => jT ac mo p1 p2 (f1 a) y u) (fun v hv h => jT_0r (a2 v hv h))
  rw [fb_sm_cong e]
  exact sm_list r1 i1 (fun x => fb_sm (fun y => jT ac mo p1 p2 x y u) 3001) (fun v hv h => sm_zero fun y _ => jT_0l (a1 v hv h))
theorem jS_le {ac mo : Nat} {p1 p2 : Nat → Nat} (u : Nat) : jS ac mo p1 p2 u ≤ 8 * (fb_sm p1 3001 * fb_sm p2 3001) := by
  unfold jS jT
  have e : 8 * (fb_sm p1 3001 * fb_sm p2 3001) = fb_sm (fun x => fb_sm (fun y => p1 x * p2 y * 8) 3001) 3001 := by
    have e1 : ∀ x, x < 3001 → fb_sm (fun y => p1 x * p2 y * 8) 3001 = p1 x * (fb_sm p2 3001 * 8) := fun x _ => by
      rw [sm_mulr 8 (fun y => p1 x * p2 y), sm_mul, Nat.mul_assoc]
    rw [fb_sm_cong e1, sm_mulr, Nat.mul_comm 8, Nat.mul_assoc]
  rw [e]
  exact fb_sm_le fun x _ => fb_sm_le fun y _ => Nat.mul_le_mul_left _ (wg_le8 ac mo x y u)
theorem jP_le {ac mo : Nat} {p1 p2 f1 f2 : Nat → Nat} {n1 n2 i j u : Nat} (hi : i < n1) (hj : j ≤ n2) : jP ac mo p1 p2 f1 f2 n2 i j u ≤ fb_sm (fun a => fb_sm (fun b => jT ac mo p1 p2 (f1 a) (f2 b) u) n2) n1 := by
  unfold jP
  have h1 := fb_sm_mono (fun b => jT ac mo p1 p2 (f1 i) (f2 b) u) j (n2 - j)
  rw [show j + (n2 - j) = n2 by omega] at h1
  have h2 := fb_sm_part (fun a => fb_sm (fun b => jT ac mo p1 p2 (f1 a) (f2 b) u) n2) hi
  exact Nat.le_trans (Nat.add_le_add_left h1 _) h2
section JQ
variable {q : Nat} {A0 A : xM} {L0 L : xL} {P : Nat → Nat → Nat} {fl : Nat → Nat → Nat} {nf : Nat → Nat} {set : Nat} {e : Nat → Nat} {c mo : Nat}
theorem s_pair (hq : q < 2) (hs : set < 64 - 48 * q) (hmo : A0 1 1 = nI mo) (hm : mo ≤ 3000) (hc : 0 < c) {ac x y : Nat} (hx : 1 ≤ x) (hx2 : x < 3001) (hy : 1 ≤ y) (hy2 : y < 3001) (hJ : JJ q A0 L0 P fl nf set e A L) (hcb : c ≤ 2 ^ 50) (eb : ∀ u, u < 3001 → e u ≤ 2 ^ 58 + 2 ^ 53) {z1 z2 z3 z4 : Int32} {R43 R68 : Int32 → xM → xL → Prop} {post : xM → xL → Prop} (h : ∀ A' L', JJ q A0 L0 P fl nf set (fun u => e u + c * wg ac mo x y u) A' L' → ∀ x10 : Int32, x10 = z4 + 1 → R68 x10 A' L') :
    (aI ac 0 = 0 → v_X1_join_135 q (nI set) z1 z2 (aI ac 0) (aI ac 1) (aI ac 2) (aI ac 3) z3 (nI x) z4 (nI y) (lN c) A L R43 R68 post) ∧ (¬ aI ac 0 = 0 → v_X1_add q (nI set) (nI x + nI y) (lN c) (A 1 1) A L (fun A' L' => v_X1_join_135 q (nI set) z1 z2 (aI ac 0) (aI ac 1) (aI ac 2) (aI ac 3) z3 (nI x) z4 (nI y) (lN c) A' L' R43 R68 post)) := by
  rw [nI_add]
  refine j_if (k := 0) (ac := ac) (R := fun A L => v_X1_join_135 q (nI set) z1 z2 (aI ac 0) (aI ac 1) (aI ac 2) (aI ac 3) z3 (nI x) z4 (nI y) (lN c) A L R43 R68 post) hq hs hmo hm hc (v := x + y) (by omega) hJ (fun u hu => by have := eb u hu; omega) (fun A1 L1 J1 => ?_)
  have g1 := fun u => eI_le (b := ac.testBit 0) (e := e) (v := x + y) (c := c) (mo := mo) (u := u)
  unfold v_X1_join_135
  rw [n_abs (show x < 2 ^ 30 by omega) (show y < 2 ^ 30 by omega)]
  refine j_if (k := 1) (ac := ac) (R := fun A L => v_X1_join_162 q (nI set) z1 z2 (aI ac 0) (aI ac 1) (aI ac 2) (aI ac 3) z3 (nI x) z4 (nI y) (lN c) A L R43 R68 post) hq hs hmo hm hc (by split <;> omega) J1 (fun u hu => by have := eb u hu; have := g1 u; omega) (fun A2 L2 J2 => ?_)
  have g2 := fun u => eI_le (b := ac.testBit 1) (e := eI (ac.testBit 0) e (x + y) c mo) (v := if y ≤ x then x - y else y - x) (c := c) (mo := mo) (u := u)
  unfold v_X1_join_162
  rw [pk_mul]
  have hprod : x * y < 2 ^ 31 := Nat.lt_of_le_of_lt (Nat.mul_le_mul (show x ≤ 3000 by omega) (show y ≤ 3000 by omega)) (by decide)
  refine j_if (k := 2) (ac := ac) (R := fun A L => v_X1_join_186 q (nI set) z1 z2 (aI ac 0) (aI ac 1) (aI ac 2) (aI ac 3) z3 (nI x) z4 (nI y) (lN c) A L R43 R68 post) hq hs hmo hm hc hprod J2 (fun u hu => by have := eb u hu; have := g1 u; have := g2 u; omega) (fun A3 L3 J3 => ?_)
  have g3 := fun u => eI_le (b := ac.testBit 2) (e := eI (ac.testBit 1) (eI (ac.testBit 0) e (x + y) c mo) (if y ≤ x then x - y else y - x) c mo) (v := x * y) (c := c) (mo := mo) (u := u)
  unfold v_X1_join_186
  refine j_over (R := fun A L => v_X1_join_223 q (nI set) z1 z2 (aI ac 0) (aI ac 1) (aI ac 2) (aI ac 3) z3 (nI x) z4 (nI y) (lN c) A L R43 R68 post) hq hs hmo hm hc hx2 hy hy2 J3 (fun u hu => by have := eb u hu; have := g1 u; have := g2 u; have := g3 u; omega) (fun A4 L4 J4 => ?_)
  have g4 := fun u => eI_le (b := ac.testBit 3 && decide (x % y = 0)) (e := eI (ac.testBit 2) (eI (ac.testBit 1) (eI (ac.testBit 0) e (x + y) c mo) (if y ≤ x then x - y else y - x) c mo) (x * y) c mo) (v := x / y) (c := c) (mo := mo) (u := u)
  unfold v_X1_join_223
  exact j_over (R := fun A L => ∀ x10 : Int32, x10 = z4 + 1 → R68 x10 A L) hq hs hmo hm hc hy2 hx hx2 J4 (fun u hu => by have := eb u hu; have := g1 u; have := g2 u; have := g3 u; have := g4 u; omega) (fun A5 L5 J5 => h A5 L5 (J5.cong fun u _ => wg_eq hx hy hm e c u))
end JQ
theorem s_join {q : Nat} (hq : q < 2) {A : xM} {L : xL} {P : Nat → Nat → Nat} {fl : Nat → Nat → Nat} {nf : Nat → Nat} (hv : HV q A L P fl nf) {set one other ac mo : Nat} (hs : set < 64 - 48 * q) (ho : one < 64 - 48 * q) (ht : other < 64 - 48 * q) (n1 : one ≠ set) (n2 : other ≠ set) (hac : A 1 0 = nI ac) (hmo : A 1 1 = nI mo) (hm : mo ≤ 3000)
    (b1 : fb_sm (P one) 3001 ≤ 2 ^ 25) (b2 : fb_sm (P other) 3001 ≤ 2 ^ 25) (b3 : ∀ u, u < 3001 → P set u ≤ 2 ^ 58) {post : xM → xL → Prop}
    (h : ∀ (A' : xM) (L' : xL), JJ q A L P fl nf set (fun u => P set u + jS ac mo (P one) (P other) u) A' L' → post A' L') : v_X1_join q (nI set) (nI one) (nI other) A L post := by
  obtain ⟨o1, o2, o3, o4, o5, o6, o7⟩ := hv.1 one ho
  obtain ⟨t1, t2, t3, t4, t5, t6, t7⟩ := hv.1 other ht
  have po := fun {i : Nat} (hi : i < nf one) => (hv.1 one ho).pos hi
  have pt := fun {i : Nat} (hi : i < nf other) => (hv.1 other ht).pos hi
  have no := (hv.1 one ho).nf_le
  have nt := (hv.1 other ht).nf_le
  have ab : ∀ s, s < 64 - 48 * q → ∀ v, v < 3001 → (∀ i, i < nf s → fl s i ≠ v) → P s v = 0 := fun s hs9 v hv9 hne => by
    rcases Nat.eq_zero_or_pos (P s v) with h0 | h0
    · exact h0
    · obtain ⟨i, hi, e⟩ := (hv.1 s hs9).2.2.2.2.2.2 v hv9 h0
      exact absurd e (hne i hi)
  have tot := fun u => jP_tot (ac := ac) (mo := mo) (fun i hi => (o5 i hi).2.1) o6 (ab one ho) (fun i hi => (t5 i hi).2.1) t6 (ab other ht) u
  have totb : ∀ u, jS ac mo (P one) (P other) u ≤ 2 ^ 53 := fun u => Nat.le_trans (jS_le u) (by
    have := Nat.mul_le_mul b1 b2
    omega)
  have c1 : (nI one).toNatClampNeg = one := nI_clamp (by omega)
  have c2 : (nI other).toNatClampNeg = other := nI_clamp (by omega)
  unfold v_X1_join
  refine s_allow (k := 0) hac (by omega) (s_allow (k := 1) hac (by omega) (s_allow (k := 2) hac (by omega) (s_allow (k := 3) hac (by omega) ?_)))
  -- the outer loop
  refine pk_loop (σ := xM × xL) (fun n i s => v_X1_join_43 q (nI set) (nI one) (nI other) (aI ac 0) (aI ac 1) (aI ac 2) (aI ac 3) post n (nI i) s.1 s.2)
    (fun i s => JJ q A L P fl nf set (fun u => P set u + jP ac mo (P one) (P other) (fl one) (fl other) (nf other) i 0 u) s.1 s.2) (nf one) 0 (A, L) (Nat.zero_le _)
    ⟨P, fl, nf, hv, HF.rf, fun _ _ => ⟨rfl, fun _ => rfl⟩, fun s u _ => by
      by_cases e : s = set
      · subst e; simp [jP, fb_sm]
      · simp [e]⟩ (fun n s hI => ?_) (fun n i s hi hI k => ?_)
  · unfold v_X1_join_43
    obtain ⟨P', fl', nf', k1, k2, k3, k4⟩ := id hI
    refine ⟨pk_in one _ ho rfl (by omega), ?_⟩
    rw [c1, (k1.1 one ho).2.2.2.1, (k3 one n1).1]
    refine pk_le (nf one) (nf one) (fun _ => h s.1 s.2 (hI.cong fun u hu => ?_)) (fun c => absurd c (by omega))
    unfold jP
    rw [tot u]
    simp [fb_sm]
  · unfold v_X1_join_43
    obtain ⟨P', fl', nf', k1, k2, k3, k4⟩ := id hI
    refine ⟨pk_in one _ ho rfl (by omega), ?_⟩
    rw [c1, (k1.1 one ho).2.2.2.1, (k3 one n1).1]
    refine pk_le (nf one) i (fun c => absurd c (by omega)) (fun _ => ⟨pk_in i 3000 (by omega), fun x9 ex9 => ?_⟩)
    rw [nI_clamp (show i < 2 ^ 31 by omega), ((k1.1 one ho).2.2.2.2.1 i (by rw [(k3 one n1).1]; exact hi)).1, (k3 one n1).2 i] at ex9
    subst ex9
    have hx1 := po hi
    have hx2 := (o5 i hi).2.1
    -- the inner loop
    refine pk_loop (σ := xM × xL) (fun n' j s => v_X1_join_68 q (nI set) (nI one) (nI other) (aI ac 0) (aI ac 1) (aI ac 2) (aI ac 3) (nI i) (nI (fl one i)) (fun x8 A L => v_X1_join_43 q (nI set) (nI one) (nI other) (aI ac 0) (aI ac 1) (aI ac 2) (aI ac 3) post n x8 A L) post n' (nI j) s.1 s.2)
      (fun j s => JJ q A L P fl nf set (fun u => P set u + jP ac mo (P one) (P other) (fl one) (fl other) (nf other) i j u) s.1 s.2) (nf other) 0 s (Nat.zero_le _) hI (fun n' s hI => ?_) (fun n' j s hj hI k2' => ?_)
    · unfold v_X1_join_68
      obtain ⟨P', fl', nf', k1, k2, k3, k4⟩ := id hI
      refine ⟨pk_in other _ ht rfl (by omega), ?_⟩
      rw [c2, (k1.1 other ht).2.2.2.1, (k3 other n2).1]
      refine pk_le (nf other) (nf other) (fun _ x8 ex8 => ?_) (fun c => absurd c (by omega))
      have e8 : x8 = nI (i + 1) := by rw [ex8]; exact nI_1 i
      subst e8
      refine k s (hI.cong fun u hu => ?_)
      unfold jP
      rw [fb_sm_succ]
      simp [fb_sm]
    · unfold v_X1_join_68
      obtain ⟨P', fl', nf', k1, k2, k3, k4⟩ := id hI
      refine ⟨pk_in other _ ht rfl (by omega), ?_⟩
      rw [c2, (k1.1 other ht).2.2.2.1, (k3 other n2).1]
      refine pk_le (nf other) j (fun c => absurd c (by omega)) (fun _ => ⟨pk_in j 3000 (by omega), fun x11 ex11 => ?_⟩)
      rw [nI_clamp (show j < 2 ^ 31 by omega), ((k1.1 other ht).2.2.2.2.1 j (by rw [(k3 other n2).1]; exact hj)).1, (k3 other n2).2 j] at ex11
      subst ex11
      have hy1 := pt hj
      have hy2 := (t5 j hj).2.1
      refine ⟨pk_in one _ ho rfl (by omega), pk_in (fl one i) 3001 hx2, pk_in (fl other j) 3001 hy2, fun y12 ey12 => ?_⟩
      have p1 : P' one (fl one i) = P one (fl one i) := by rw [k4 one _ hx2, if_neg n1]
      have p2 : P' other (fl other j) = P other (fl other j) := by rw [k4 other _ hy2, if_neg n2]
      rw [c1, nI_clamp (show fl one i < 2 ^ 31 by omega), nI_clamp (show fl other j < 2 ^ 31 by omega), (k1.1 one ho).1 _ hx2, (k1.1 other ht).1 _ hy2, lN_mul, p1, p2] at ey12
      subst ey12
      generalize hc9 : P one (fl one i) * P other (fl other j) = c
      have hcp : 0 < c := by rw [← hc9]; exact Nat.mul_pos (o5 i hi).2.2 (t5 j hj).2.2
      have hcb : c ≤ 2 ^ 50 := by
        rw [← hc9]
        have q1 := fb_sm_part (P one) hx2
        have q2 := fb_sm_part (P other) hy2
        exact Nat.le_trans (Nat.mul_le_mul (Nat.le_trans (Nat.le_trans (Nat.le_add_left _ _) q1) b1) (Nat.le_trans (Nat.le_trans (Nat.le_add_left _ _) q2) b2)) (by decide)
      have eb : ∀ u, u < 3001 → P set u + jP ac mo (P one) (P other) (fl one) (fl other) (nf other) i j u ≤ 2 ^ 58 + 2 ^ 53 := fun u hu => by
        have q1 := jP_le (ac := ac) (mo := mo) (p1 := P one) (p2 := P other) (f1 := fl one) (f2 := fl other) (u := u) hi (Nat.le_of_lt hj)
        rw [tot u] at q1
        have q2 := totb u
        have q3 := b3 u hu
        omega
      generalize he : (fun u => P set u + jP ac mo (P one) (P other) (fl one) (fl other) (nf other) i j u) = e at hI
      have eb : ∀ u, u < 3001 → e u ≤ 2 ^ 58 + 2 ^ 53 := fun u hu => by rw [← he]; exact eb u hu
      have fin : ∀ A' L', JJ q A L P fl nf set (fun u => e u + c * wg ac mo (fl one i) (fl other j) u) A' L' → ∀ x10 : Int32, x10 = nI j + 1 → v_X1_join_68 q (nI set) (nI one) (nI other) (aI ac 0) (aI ac 1) (aI ac 2) (aI ac 3) (nI i) (nI (fl one i)) (fun x8 A L => v_X1_join_43 q (nI set) (nI one) (nI other) (aI ac 0) (aI ac 1) (aI ac 2) (aI ac 3) post n x8 A L) post n' x10 A' L' := fun A' L' hJ x10 ex10 => by
        have e10 : x10 = nI (j + 1) := by rw [ex10]; exact nI_1 j
        subst e10
        refine k2' (A', L') (hJ.cong fun u hu => ?_)
        have e1 : e u = P set u + jP ac mo (P one) (P other) (fl one) (fl other) (nf other) i j u := by rw [← he]
        have e2 : jP ac mo (P one) (P other) (fl one) (fl other) (nf other) i (j + 1) u = jP ac mo (P one) (P other) (fl one) (fl other) (nf other) i j u + c * wg ac mo (fl one i) (fl other j) u := by
          unfold jP
          rw [fb_sm_succ, ← hc9]
          exact (Nat.add_assoc _ _ _).symm
        show e u + c * wg ac mo (fl one i) (fl other j) u = P set u + jP ac mo (P one) (P other) (fl one) (fl other) (nf other) i (j + 1) u
        rw [e1, e2]
        omega
      exact s_pair hq hs hmo hm hcp hx1 hx2 hy1 hy2 hI hcb eb fin
