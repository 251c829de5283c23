/-! the reference's join, fill, heap -/
def kT (w : Nat → Nat → Nat → Nat) (p1 p2 : Nat → Nat) (x y u : Nat) : Nat := p1 x * p2 y * w x y u
def kP (w : Nat → Nat → Nat → Nat) (p1 p2 f1 f2 : Nat → Nat) (n2 i j u : Nat) : Nat := fb_sm (fun a => fb_sm (fun b => kT w p1 p2 (f1 a) (f2 b) u) n2) i + fb_sm (fun b => kT w p1 p2 (f1 i) (f2 b) u) j
def kS (w : Nat → Nat → Nat → Nat) (p1 p2 : Nat → Nat) (u : Nat) : Nat := fb_sm (fun x => fb_sm (fun y => kT w p1 p2 x y u) 3001) 3001
theorem kP_tot {w : Nat → Nat → Nat → Nat} {p1 p2 f1 f2 : Nat → Nat} {n1 n2 : Nat} (r1 : ∀ i, i < n1 → f1 i < 3001) (i1 : ∀ i j, i < n1 → j < n1 → f1 i = f1 j → i = j) (a1 : ∀ v, v < 3001 → (∀ i, i < n1 → f1 i ≠ v) → p1 v = 0) (r2 : ∀ i, i < n2 → f2 i < 3001) (i2 : ∀ i j, i < n2 → j < n2 → f2 i = f2 j → i = j) (a2 : ∀ v, v < 3001 → (∀ i, i < n2 → f2 i ≠ v) → p2 v = 0) (u : Nat) : fb_sm (fun a => fb_sm (fun b => kT w p1 p2 (f1 a) (f2 b) u) n2) n1 = kS w p1 p2 u := by
  have z1 : ∀ x y, p1 x = 0 → kT w p1 p2 x y u = 0 := fun x y h => by unfold kT; rw [h]; simp
  have z2 : ∀ x y, p2 y = 0 → kT w p1 p2 x y u = 0 := fun x y h => by unfold kT; rw [h]; simp
  unfold kS
  have e : ∀ a, a < n1 → fb_sm (fun b => kT w p1 p2 (f1 a) (f2 b) u) n2 = fb_sm (fun y => kT w p1 p2 (f1 a) y u) 3001 := fun a _ => sm_list r2 i2 (fun y => kT w p1 p2 (f1 a) y u) (fun v hv h => z2 _ _ (a2 v hv h))
  rw [fb_sm_cong e]
  exact sm_list r1 i1 (fun x => fb_sm (fun y => kT w p1 p2 x y u) 3001) (fun v hv h => sm_zero fun y _ => z1 _ _ (a1 v hv h))
theorem r_fin1 : ∀ set, set < 64 → ∀ k, k < 64 → wpB set k = true → nI set &&& (nI k ^^^ (-1 : Int32)) = nI (set ^^^ k) := by decide +kernel
theorem r_fin2 : ∀ set, set < 64 → ∀ k, k < 64 → wpB set k = true → ((nI k &&& nI set) &&& (-nI set) = 0 ↔ wfB set k = false) := by decide +kernel
theorem r_fin3 : ∀ set, set < 64 → ∀ k, k < set → 1 ≤ k → (nI k &&& (nI set ^^^ (-1 : Int32)) = 0 ↔ wpB set k = true) := by decide +kernel
theorem r_join {A : xM} {L : xL} {n set left ac mo : Nat} {P : Nat → Nat → Nat} (hs : set < 64) (hw : wpB set left = true) (hac : A 23 2 = nI ac) (h16 : ac < 16) (hmo : A 23 3 = nI mo) (hm : mo ≤ 3000)
    (hP : ∀ s, wpB set s = true → P s 0 = 0 ∧ ∀ v, 1 ≤ v → v < 3001 → L 28 (3001 * s + v) = lN (P s v) ∧ P s v < 2 ^ 62) {L0 : xL} {e : Nat → Nat} (hJ : RQ set e L0 L) {post : xM → xL → Prop}
    (k : ∀ A' L', (∀ a b, a ≠ 29 → a ≠ 30 → A' a b = A a b) → RQ set (fun u => e u + kS (wq ac mo (wfB set left)) (P left) (P (set ^^^ left)) u) L0 L' → post A' L') : v_X6_join (nI set) (nI left) A L post := by
  have hlt := wpB_lt hw
  have hf := w_fin set hs left (by omega) hw
  have hlt2 := wpB_lt hf.1
  have rf := And.intro (r_fin1 set hs left (by omega) hw) (r_fin2 set hs left (by omega) hw)
  unfold v_X6_join
  intro x3 ex3
  rw [rf.1] at ex3
  subst ex3
  have main : v_X6_join_20 (nI set) (nI left) (nI (set ^^^ left)) (bI (wfB set left)) A L post := by
    unfold v_X6_join_20
    refine q_list (by omega) (hP left hw).2 (fun n1 f1 A1 l1 g1 => q_list (by omega) (hP _ hf.1).2 (fun n2 f2 A2 l2 g2 => ?_))
    obtain ⟨hn1, a1, b1, c1⟩ := l1
    obtain ⟨hn2, a2, b2, c2⟩ := l2
    have A2_29 : ∀ i, i < n1 → A2 29 i = nI (f1 i) := fun i hi => by rw [g2 29 i (by decide)]; exact (a1 i hi).1
    have A2_o : ∀ a b, a ≠ 29 → a ≠ 30 → A2 a b = A a b := fun a b h1 h2 => (g2 a b h2).trans (g1 a b h1)
    have ab1 : ∀ v, v < 3001 → (∀ i, i < n1 → f1 i ≠ v) → P left v = 0 := fun v hv h => by
      by_cases h0 : v = 0
      · subst h0; exact (hP left hw).1
      · rcases Nat.eq_zero_or_pos (P left v) with h3 | h3
        · exact h3
        · obtain ⟨i, hi, e⟩ := c1 v (by omega) hv h3
          exact absurd e (h i hi)
    have ab2 : ∀ v, v < 3001 → (∀ i, i < n2 → f2 i ≠ v) → P (set ^^^ left) v = 0 := fun v hv h => by
      by_cases h0 : v = 0
      · subst h0; exact (hP _ hf.1).1
      · rcases Nat.eq_zero_or_pos (P (set ^^^ left) v) with h3 | h3
        · exact h3
        · obtain ⟨i, hi, e⟩ := c2 v (by omega) hv h3
          exact absurd e (h i hi)
    have tot := fun u => kP_tot (w := wq ac mo (wfB set left)) (fun i hi => (a1 i hi).2.2.1) b1 ab1 (fun i hi => (a2 i hi).2.2.1) b2 ab2 u
    generalize hw9 : wq ac mo (wfB set left) = w at tot k
    refine pk_loop (σ := xL) (fun n i s => v_X6_join_47 (nI set) (nI left) (nI (set ^^^ left)) (bI (wfB set left)) (nI n1) (nI n2) post n (nI i) A2 s)
      (fun i s => RQ set (fun u => e u + kP w (P left) (P (set ^^^ left)) f1 f2 n2 i 0 u) L0 s) n1 0 L (Nat.zero_le _) (hJ.cong fun u _ _ => by simp [kP, fb_sm]) (fun n s hI => ?_) (fun n i s hi hI kk => ?_)
    · unfold v_X6_join_47
      refine pk_le n1 n1 (fun _ => k A2 s A2_o (hI.cong fun u _ _ => ?_)) (fun c => absurd c (by omega))
      unfold kP
      rw [tot u]
      simp [fb_sm]
    · unfold v_X6_join_47
      refine pk_le n1 i (fun c => absurd c (by omega)) (fun _ => ?_)
      refine pk_loop (σ := xL) (fun n' j s => v_X6_join_57 (nI set) (nI left) (nI (set ^^^ left)) (bI (wfB set left)) (nI n1) (nI n2) (nI i) (fun x7 A L => v_X6_join_47 (nI set) (nI left) (nI (set ^^^ left)) (bI (wfB set left)) (nI n1) (nI n2) post n x7 A L) post n' (nI j) A2 s)
        (fun j s => RQ set (fun u => e u + kP w (P left) (P (set ^^^ left)) f1 f2 n2 i j u) L0 s) n2 0 s (Nat.zero_le _) hI (fun n' s hI => ?_) (fun n' j s hj hI kk2 => ?_)
      · unfold v_X6_join_57
        refine pk_le n2 n2 (fun _ x8 ex8 => ?_) (fun c => absurd c (by omega))
        have e8 : x8 = nI (i + 1) := by rw [ex8]; exact nI_1 i
        subst e8
        refine kk s (hI.cong fun u _ _ => ?_)
        unfold kP
        rw [fb_sm_succ]
        simp [fb_sm]
      · unfold v_X6_join_57
        obtain ⟨p1, p2, p3, p4⟩ := a1 i hi
        obtain ⟨q1, q2, q3, q4⟩ := a2 j hj
        refine pk_le n2 j (fun c => absurd c (by omega)) (fun _ => ⟨pk_in i 3001 (by omega), fun x9 ex9 => ⟨pk_in j 3001 (by omega), fun x10 ex10 => ?_⟩⟩)
        rw [nI_clamp (show i < 2 ^ 31 by omega), A2_29 i hi] at ex9
        rw [nI_clamp (show j < 2 ^ 31 by omega), q1] at ex10
        subst ex9; subst ex10
        rw [ix_nI, ix_nI, nI_clamp (show 3001 * left + f1 i < 2 ^ 31 by omega), nI_clamp (show 3001 * (set ^^^ left) + f2 j < 2 ^ 31 by omega)]
        refine ⟨pk_in (3001 * left + f1 i) _ (by omega), pk_in (3001 * (set ^^^ left) + f2 j) _ (by omega), fun y11 ey11 => ?_⟩
        have hx2 := wpB_lt hf.1
        have L1 : s 28 (3001 * left + f1 i) = L 28 (3001 * left + f1 i) := (hI.1 _ _ (by omega)).trans (hJ.1 _ _ (by omega)).symm
        have L2 : s 28 (3001 * (set ^^^ left) + f2 j) = L 28 (3001 * (set ^^^ left) + f2 j) := (hI.1 _ _ (by omega)).trans (hJ.1 _ _ (by omega)).symm
        rw [L1, L2, ((hP left hw).2 _ p2 p3).1, ((hP _ hf.1).2 _ q2 q3).1, lN_mul] at ey11
        subst ey11
        refine q_pair (ac := ac) (mo := mo) (f := wfB set left) (c := P left (f1 i) * P (set ^^^ left) (f2 j)) hI hs (by rw [A2_o _ _ (by decide) (by decide)]; exact hac) h16 (by rw [A2_o _ _ (by decide) (by decide)]; exact hmo) hm p2 p3 q2 q3 (fun L' J x8 ex8 => ?_)
        have e8 : x8 = nI (j + 1) := by rw [ex8]; exact nI_1 j
        subst e8
        refine kk2 L' (J.cong fun u _ _ => ?_)
        rw [hw9]
        show _ + kP w (P left) (P (set ^^^ left)) f1 f2 n2 i j u + _ = _
        unfold kP
        rw [fb_sm_succ (fun b => kT w (P left) (P (set ^^^ left)) (f1 i) (f2 b) u) j]
        show _ = e u + (_ + (_ + P left (f1 i) * P (set ^^^ left) (f2 j) * w (f1 i) (f2 j) u))
        omega
  refine ⟨fun c => ?_, fun c => ?_⟩
  · have := rf.2.mp c
    rw [this] at main
    exact main
  · have : wfB set left = true := by
      cases h : wfB set left
      · exact absurd (rf.2.mpr h) c
      · rfl
    rw [this] at main
    exact main
theorem wG_0 {ac : Nat} {c : Nat → Nat → Nat} {set left : Nat} {f : Bool} (h0 : c left 0 = 0) (h1 : c (set ^^^ left) 0 = 0) : wG ac c set f 0 left = 0 := by
  unfold wG
  refine sm_zero fun x _ => sm_zero fun y _ => ?_
  by_cases hx : x = 0
  · subst hx; rw [h0]; simp
  · by_cases hy : y = 0
    · subst hy; rw [h1]; simp
    · have : wc ac f x y 0 = 0 := by
        unfold wc
        have a1 : ¬ (f = true ∧ ac.testBit 0 = true ∧ x + y = 0) := by omega
        have a2 : ¬ (ac.testBit 1 = true ∧ y < x ∧ x - y = 0) := by omega
        have a3 : ¬ (f = true ∧ ac.testBit 2 = true ∧ x * y = 0) := fun h => by
          have := Nat.mul_pos (show 0 < x by omega) (show 0 < y by omega)
          omega
        have a4 : ¬ (ac.testBit 3 = true ∧ x % y = 0 ∧ x / y = 0) := fun h => by
          have := Nat.div_pos (Nat.le_of_dvd (by omega) (Nat.dvd_of_mod_eq_zero h.2.1)) (show 0 < y by omega)
          omega
        rw [if_neg a1, if_neg a2, if_neg a3, if_neg a4]
      rw [this, Nat.mul_zero]
theorem kS_wG {ac mo : Nat} {c : Nat → Nat → Nat} {set left u : Nat} {f : Bool} : kS (wq ac mo f) (c left) (c (set ^^^ left)) u = if u ≤ mo then wG ac c set f u left else 0 := by
  unfold kS kT wq wG
  split
  · rfl
  · simp only [Nat.mul_zero]
    exact sm_zero fun x _ => sm_zero fun y _ => rfl
/-- the rows of n items to be worked with -/
def RV (n ac mo : Nat) (it : Nat → Nat) (L : xL) : Prop := ∀ s v, s < 2 ^ n → 1 ≤ v → v < 3001 → L 28 (3001 * s + v) = lN (wW ac mo it s v)
theorem wb_fin : ∀ s, s < 64 → 1 ≤ s → (pb s = 1 → wb s < 6) ∧ (pb s ≠ 1 → wb s = 6) := by decide +kernel
theorem wb_bit : ∀ s, s < 64 → wb s < 6 → ∀ k, k < 7 → (k < wb s → s / 2 ^ k % 2 = 0) ∧ (k = wb s → s / 2 ^ k % 2 = 1) := by decide +kernel
theorem r_fill {A : xM} {L : xL} {n ac mo : Nat} {it : Nat → Nat} (hn : n ≤ 6) (h9 : A 23 9 = nI n) (hac : A 23 2 = nI ac) (h16 : ac < 16) (hmo : A 23 3 = nI mo) (hm : mo ≤ 3000) (hit : ∀ k, k < n → A 27 k = nI (it k) ∧ 1 ≤ it k ∧ it k ≤ 100) {post : xM → xL → Prop}
    (k : ∀ A' L', (∀ a b, a ≠ 29 → a ≠ 30 → ¬ (a = 23 ∧ b = 13) → A' a b = A a b) → A' 23 13 = 0 → (∀ a b, a ≠ 28 → L' a b = L a b) → RV n ac mo it L' → post A' L') : v_X6_fill A L post := by
  have h2n : 2 ^ n ≤ 64 := Nat.le_trans (Nat.pow_le_pow_right (by decide) hn) (by decide)
  have h2n1 : 1 ≤ 2 ^ n := Nat.one_le_two_pow
  have esh : (1 : Int32) <<< (nI n &&& 31) = nI (2 ^ n) := w_shl n (by omega)
  have esh2 : (3001 : Int32) <<< (nI n &&& 31) = nI (3001 * 2 ^ n) := by
    have : ∀ n, n < 7 → (3001 : Int32) <<< (nI n &&& 31) = nI (3001 * 2 ^ n) := by decide +kernel
    exact this n (by omega)
  unfold v_X6_fill
  refine pk_loop (σ := xL) (fun f i s => v_X6_fill_2 post f (nI i) A s) (fun i s => (∀ a b, a ≠ 28 → s a b = L a b) ∧ ∀ j, j < i → s 28 j = 0) (3001 * 2 ^ n) 0 L (Nat.zero_le _) ⟨fun _ _ _ => rfl, fun j hj => by omega⟩ (fun f s hI => ?_) (fun f i s hi hI kk => ?_)
  · obtain ⟨i1, i2⟩ := hI
    unfold v_X6_fill_2
    rw [h9, esh2]
    refine pk_le (3001 * 2 ^ n) (3001 * 2 ^ n) (fun _ => ?_) (fun c => absurd c (by omega))
    refine pk_loop (σ := xM × xL) (fun f i s => v_X6_fill_29 post f (nI i) s.1 s.2)
      (fun i s => 1 ≤ i ∧ (∀ a b, a ≠ 29 → a ≠ 30 → s.1 a b = A a b) ∧ (∀ a b, a ≠ 28 → s.2 a b = L a b) ∧ ∀ t v, t < 2 ^ n → 1 ≤ v → v < 3001 → s.2 28 (3001 * t + v) = lN (if t < i then wW ac mo it t v else 0)) (2 ^ n) 1 (A, s) h2n1
      ⟨Nat.le_refl _, fun _ _ _ _ => rfl, i1, fun t v ht h1 h2 => ?_⟩ (fun f s hI => ?_) (fun f i s hi hI kk => ?_)
    · show s 28 _ = _
      rw [i2 (3001 * t + v) (by omega)]
      split
      · have : t = 0 := by omega
        subst this
        rw [wW_0]; rfl
      · rfl
    · obtain ⟨-, j1, j2, j3⟩ := hI
      unfold v_X6_fill_29
      rw [j1 _ _ (by decide) (by decide), h9, esh]
      refine pk_le (2 ^ n) (2 ^ n) (fun _ A2 eA2 => ?_) (fun c => absurd c (by omega))
      subst eA2
      refine k _ _ (fun a b h1 h2 h3 => ?_) (by simp [xu]) j2 (fun t v ht h1 h2 => by rw [j3 t v ht h1 h2, if_pos ht])
      unfold xu
      rw [if_neg h3]
      exact j1 a b h1 h2
    · obtain ⟨hi1, j1, j2, j3⟩ := hI
      have hi64 : i < 64 := by omega
      unfold v_X6_fill_29
      rw [j1 _ _ (by decide) (by decide), h9, esh]
      refine pk_le (2 ^ n) i (fun c => absurd c (by omega)) (fun _ => ?_)
      refine s_bits (by omega) ?_
      have pbs : pb i < 2 ^ 31 := by
        have : ∀ s, s < 64 → pb s < 7 := by decide +kernel
        have := this i hi64
        omega
      have wf := wb_fin i hi64 hi1
      have nxt : ∀ x3 : Int32, x3 = nI i + 1 → x3 = nI (i + 1) := fun x3 ex => by rw [ex]; exact nI_1 i
      refine ⟨fun c => ?_, fun c => ?_⟩
      · have hb6 : wb i = 6 := wf.2 fun e => c (by rw [e]; rfl)
        have j4 : ∀ t v, t < i → 1 ≤ v → v < 3001 → s.2 28 (3001 * t + v) = lN (wW ac mo it t v) := fun t v ht h1 h2 => by rw [j3 t v (by omega) h1 h2, if_pos ht]
        refine pk_loop (σ := xM × xL) (fun f' l s' => v_X6_fill_86 (nI i) (fun x1 A L => v_X6_fill_29 post f x1 A L) post f' (nI l) s'.1 s'.2)
          (fun l s' => 1 ≤ l ∧ (∀ a b, a ≠ 29 → a ≠ 30 → s'.1 a b = A a b) ∧ RQ i (fun u => fb_sm (fun left => if wpB i left = true then (if u ≤ mo then wG ac (wW ac mo it) i (wfB i left) u left else 0) else 0) l) s.2 s'.2) i 1 s (by omega)
          ⟨Nat.le_refl _, j1, fun _ _ _ => rfl, fun u h1 h2 => ?_⟩ (fun f' s' hI => ?_) (fun f' l s' hl hI kk2 => ?_)
        · rw [j3 i u hi h1 h2, if_neg (by omega)]
          rfl
        · obtain ⟨-, m1, m2⟩ := hI
          unfold v_X6_fill_86
          refine pk_le i i (fun _ x1 ex1 => ?_) (fun c => absurd c (by omega))
          rw [nxt x1 ex1]
          refine kk s' ⟨by omega, m1, fun a b h => ?_, fun t v ht h1 h2 => ?_⟩
          · rw [m2.1 a b (by omega)]; exact j2 a b h
          · by_cases e : t = i
            · subst e
              rw [m2.2 v h1 h2, if_pos (by omega), wW_eq hi64, if_neg (by omega), if_neg (by omega)]
              unfold wS
              congr 1
              split
              · rename_i hum
                exact fb_sm_cong fun l _ => by rw [if_pos hum]
              · refine sm_zero fun l _ => ?_
                split <;> rfl
            · rw [m2.1 28 _ (by omega), j3 t v ht h1 h2]
              congr 1
              by_cases c2 : t < i
              · rw [if_pos c2, if_pos (by omega)]
              · rw [if_neg c2, if_neg (by omega)]
        · obtain ⟨hl1, m1, m2⟩ := hI
          unfold v_X6_fill_86
          refine pk_le i l (fun c => absurd c (by omega)) (fun _ => ?_)
          have rf := r_fin3 i hi64 l hl hl1
          have nxl : ∀ x3 : Int32, x3 = nI l + 1 → x3 = nI (l + 1) := fun x3 ex => by rw [ex]; exact nI_1 l
          refine ⟨fun c x2 ex2 => ?_, fun c => ?_⟩
          · rw [nxl x2 ex2]
            refine kk2 s' ⟨by omega, m1, m2.cong fun u _ _ => ?_⟩
            rw [fb_sm_succ, if_neg (fun h => c (rf.mpr h))]
            rfl
          · have hw := rf.mp c
            refine r_join (P := wW ac mo it) (n := n) hi64 hw (by rw [m1 _ _ (by decide) (by decide)]; exact hac) h16 (by rw [m1 _ _ (by decide) (by decide)]; exact hmo) hm (fun t ht => ⟨?_, fun v h1 h2 => ⟨?_, ?_⟩⟩) m2 (fun A' L' g1 J x2 ex2 => ?_)
            · have := wpB_lt ht
              rw [wW_eq (by omega), if_pos (by omega)]
            · have := wpB_lt ht
              rw [m2.1 28 _ (by omega)]
              exact j4 t v this.2 h1 h2
            · have := wpB_lt ht
              exact Nat.lt_of_le_of_lt (wW_le (by omega)) (by decide)
            · rw [nxl x2 ex2]
              refine kk2 (A', L') ⟨by omega, fun a b h1 h2 => (g1 a b h1 h2).trans (m1 a b h1 h2), J.cong fun u _ _ => ?_⟩
              rw [kS_wG, fb_sm_succ, if_pos hw]
      · have hp1 : pb i = 1 := (nI_eq (a := pb i) (b := 1) pbs (by omega)).mp c
        have hb6 := wf.1 hp1
        have w5 := (w_fin5 i hi64).2.1 hb6
        have wbb := wb_bit i hi64 hb6
        have hkn : wb i < n := by
          refine Nat.lt_of_not_le fun hnk => ?_
          have : 2 ^ n ≤ 2 ^ wb i := Nat.pow_le_pow_right (by decide) hnk
          omega
        refine pk_loop (σ := Unit) (fun f' j _ => v_X6_fill_49 (nI i) (fun x1 A L => v_X6_fill_29 post f x1 A L) post f' (nI j) s.1 s.2) (fun j _ => j ≤ wb i) (wb i) 0 () (Nat.zero_le _) (Nat.zero_le _) (fun f' _ _ => ?_) (fun f' j _ hj _ kk2 => ?_)
        · unfold v_X6_fill_49
          rw [bit_nI (by omega) (by omega), (wbb (wb i) (by omega)).2 rfl]
          refine ⟨fun _ => ⟨pk_in (wb i) 6 hb6, ?_⟩, fun c => absurd c (by decide)⟩
          obtain ⟨p1, p2, p3⟩ := hit (wb i) hkn
          rw [nI_clamp (show wb i < 2 ^ 31 by omega), j1 _ _ (by decide) (by decide), p1, ix_nI, nI_clamp (show 3001 * i + it (wb i) < 2 ^ 31 by omega)]
          refine ⟨pk_in (3001 * i + it (wb i)) _ (by omega), fun L4 eL4 x1 ex1 => ?_⟩
          rw [nxt x1 ex1]
          refine kk (s.1, L4) ⟨by omega, j1, fun a b h => ?_, fun t v ht h1 h2 => ?_⟩
          · show L4 a b = _
            rw [eL4]; unfold xul; rw [if_neg (by omega)]; exact j2 a b h
          · show L4 28 _ = _
            rw [eL4]; unfold xul
            by_cases e : t = i
            · subst e
              rw [if_pos (show t < t + 1 by omega), wW_eq hi64, if_neg (show ¬ (t = 0 ∨ v = 0 ∨ 3000 < v) by omega), if_pos hb6]
              by_cases e2 : v = it (wb t)
              · rw [if_pos (show 28 = 28 ∧ 3001 * t + v = 3001 * t + it (wb t) by omega), if_pos e2]; rfl
              · rw [if_neg (show ¬ (28 = 28 ∧ 3001 * t + v = 3001 * t + it (wb t)) by omega), if_neg e2, j3 t v ht h1 h2, if_neg (by omega)]
            · rw [if_neg (by omega), j3 t v ht h1 h2]
              congr 1
              by_cases c2 : t < i
              · rw [if_pos c2, if_pos (by omega)]
              · rw [if_neg c2, if_neg (by omega)]
        · unfold v_X6_fill_49
          rw [bit_nI (by omega) (by omega), (wbb j (by omega)).1 hj]
          refine ⟨fun c => absurd rfl c, fun _ x2 ex2 => ?_⟩
          have : x2 = nI (j + 1) := by rw [ex2]; exact nI_1 j
          subst this
          exact kk2 () (by omega)
  · obtain ⟨i1, i2⟩ := hI
    unfold v_X6_fill_2
    rw [h9, esh2]
    refine pk_le (3001 * 2 ^ n) i (fun c => absurd c (by omega)) (fun _ => ⟨pk_in i _ (by omega), fun L3 eL3 x1 ex1 => ?_⟩)
    have : x1 = nI (i + 1) := by rw [ex1]; exact nI_1 i
    subst this
    rw [nI_clamp (show i < 2 ^ 31 by omega)] at eL3
    refine kk L3 ⟨fun a b h => ?_, fun j hj => ?_⟩
    · rw [eL3]; unfold xul; rw [if_neg (by omega)]; exact i1 a b h
    · rw [eL3]; unfold xul
      by_cases e : j = i
      · rw [if_pos ⟨rfl, e⟩]
      · rw [if_neg (by omega)]; exact i2 j (by omega)
