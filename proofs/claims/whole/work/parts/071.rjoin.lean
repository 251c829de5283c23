/-! the reference's rows -/
/-- row set holds e, for numbers from 1 -/
def RQ (set : Nat) (e : Nat → Nat) (L0 L : xL) : Prop := (∀ k j, ¬ (k = 28 ∧ 3001 * set ≤ j ∧ j < 3001 * set + 3001) → L k j = L0 k j) ∧ ∀ u, 1 ≤ u → u < 3001 → L 28 (3001 * set + u) = lN (e u)
def qE (e : Nat → Nat) (v c mo : Nat) : Nat → Nat := fun u => if u = v ∧ v ≤ mo then e u + c else e u
def qI (b : Bool) (e : Nat → Nat) (v c mo : Nat) : Nat → Nat := if b = true then qE e v c mo else e
theorem RQ.cong {set : Nat} {e e2 : Nat → Nat} {L0 L : xL} (h : RQ set e L0 L) (q : ∀ u, 1 ≤ u → u < 3001 → e u = e2 u) : RQ set e2 L0 L := ⟨h.1, fun u h1 h2 => by rw [h.2 u h1 h2, q u h1 h2]⟩
theorem ix_nI (s v : Nat) : (3001 : Int32) * nI s + nI v = nI (3001 * s + v) := by
  rw [show (3001 : Int32) = nI 3001 from rfl, pk_mul, nI_add]
theorem q_add {A : xM} {L0 L : xL} {set v c mo : Nat} {e : Nat → Nat} (h : RQ set e L0 L) (hs : set < 64) (hmo : A 23 3 = nI mo) (hm : mo ≤ 3000) (hv0 : 1 ≤ v) (hv : v < 2 ^ 31) {post : xM → xL → Prop} (k : ∀ L', RQ set (qE e v c mo) L0 L' → post A L') : v_X6_add (nI set) (lN v) (lN c) A L post := by
  unfold v_X6_add
  rw [hmo, nI_l (by omega), lg_cmp_gt]
  refine ⟨fun c1 => k L (h.cong fun u _ _ => ?_), fun c1 => ?_⟩
  · have c1 := (pk_lLT (a := mo) (b := v) (by omega) (by omega)).mp c1
    unfold qE
    rw [if_neg (by omega)]
  · have c1 : v ≤ mo := Nat.le_of_not_lt fun h => c1 ((pk_lLT (by omega) (by omega)).mpr h)
    rw [lN_i, ix_nI, nI_clamp (by omega)]
    refine ⟨pk_in (3001 * set + v) _ (by omega), fun L3 eL3 => k L3 ⟨fun a b hab => ?_, fun u h1 h2 => ?_⟩⟩
    · rw [eL3]; unfold xul; rw [if_neg (by omega)]; exact h.1 a b hab
    · rw [eL3]; unfold xul qE
      by_cases e1 : u = v
      · subst e1
        rw [if_pos ⟨rfl, rfl⟩, if_pos ⟨rfl, c1⟩, h.2 u h1 h2, lN_add]
      · rw [if_neg (by omega), if_neg (by omega)]; exact h.2 u h1 h2
/-- one pair's share here -/
def wq (ac mo : Nat) (f : Bool) (x y v : Nat) : Nat := if v ≤ mo then wc ac f x y v else 0
def bI (b : Bool) : Int32 := if b = true then 1 else 0
theorem bI_0 {b : Bool} : (bI b = 0 → b = false) ∧ (¬ bI b = 0 → b = true) := by cases b <;> simp [bI]
theorem q_eq {ac mo x y : Nat} {f : Bool} (hx : 1 ≤ x) (hy : 1 ≤ y) (e : Nat → Nat) (c u : Nat) (hu : 1 ≤ u) : qI (ac.testBit 3 && decide (x % y = 0)) (qI (f && ac.testBit 2) (qI (ac.testBit 1 && decide (y < x)) (qI (f && ac.testBit 0) e (x + y) c mo) (x - y) c mo) (x * y) c mo) (x / y) c mo u = e u + c * wq ac mo f x y u := by
  have s1 : ∀ (b : Bool) (g : Nat → Nat) (v : Nat), qI b g v c mo u = g u + c * (if b = true ∧ u = v ∧ u ≤ mo then 1 else 0) := by
    intro b g v
    unfold qI qE
    cases b
    · simp
    · by_cases e1 : u = v
      · subst e1
        by_cases e2 : u ≤ mo
        · simp [e2]
        · simp [e2]
      · simp [e1]
  rw [s1, s1, s1, s1]
  unfold wq wc
  by_cases hu2 : u ≤ mo
  · simp only [hu2, and_true, if_true]
    have a1 : (if (f && ac.testBit 0) = true ∧ u = x + y then 1 else 0) = (if f = true ∧ ac.testBit 0 = true ∧ x + y = u then 1 else 0) := by
      congr 1
      simp only [Bool.and_eq_true]
      exact propext ⟨fun h => ⟨h.1.1, h.1.2, h.2.symm⟩, fun h => ⟨⟨h.1, h.2.1⟩, h.2.2.symm⟩⟩
    have a2 : (if (ac.testBit 1 && decide (y < x)) = true ∧ u = x - y then 1 else 0) = (if ac.testBit 1 = true ∧ y < x ∧ x - y = u then 1 else 0) := by
      congr 1
      simp only [Bool.and_eq_true, decide_eq_true_eq]
      exact propext ⟨fun h => ⟨h.1.1, h.1.2, h.2.symm⟩, fun h => ⟨⟨h.1, h.2.1⟩, h.2.2.symm⟩⟩
    have a3 : (if (f && ac.testBit 2) = true ∧ u = x * y then 1 else 0) = (if f = true ∧ ac.testBit 2 = true ∧ x * y = u then 1 else 0) := by
      congr 1
      simp only [Bool.and_eq_true]
      exact propext ⟨fun h => ⟨h.1.1, h.1.2, h.2.symm⟩, fun h => ⟨⟨h.1, h.2.1⟩, h.2.2.symm⟩⟩
    have a4 : (if (ac.testBit 3 && decide (x % y = 0)) = true ∧ u = x / y then 1 else 0) = (if ac.testBit 3 = true ∧ x % y = 0 ∧ x / y = u then 1 else 0) := by
      congr 1
      simp only [Bool.and_eq_true, decide_eq_true_eq]
      exact propext ⟨fun h => ⟨h.1.1, h.1.2, h.2.symm⟩, fun h => ⟨⟨h.1, h.2.1⟩, h.2.2.symm⟩⟩
    rw [a1, a2, a3, a4]
    simp only [Nat.mul_add]
    omega
  · simp [hu2]
theorem q_pair {A : xM} {L0 L : xL} {set c mo ac x y : Nat} {e : Nat → Nat} {f : Bool} (h : RQ set e L0 L) (hs : set < 64) (hac : A 23 2 = nI ac) (h16 : ac < 16) (hmo : A 23 3 = nI mo) (hm : mo ≤ 3000) (hx : 1 ≤ x) (hx2 : x < 3001) (hy : 1 ≤ y) (hy2 : y < 3001) {z1 z2 z3 z4 z5 z6 : Int32} {R47 R57 : Int32 → xM → xL → Prop} {post : xM → xL → Prop} (k : ∀ L', RQ set (fun u => e u + c * wq ac mo f x y u) L0 L' → ∀ x8 : Int32, x8 = z6 + 1 → R57 x8 A L') :
    (bI f = 0 → v_X6_join_137 (nI set) z1 z2 (bI f) z3 z4 z5 z6 (nI x) (nI y) (lN c) A L R47 R57 post) ∧ (¬ bI f = 0 → v_X6_may (0 : Int32) A L (fun r => ((r = 0 → v_X6_join_137 (nI set) z1 z2 (bI f) z3 z4 z5 z6 (nI x) (nI y) (lN c) A L R47 R57 post) ∧ (¬ r = 0 → v_X6_add (nI set) ((nI x + nI y)).toInt64 (lN c) A L (fun A' L' => v_X6_join_137 (nI set) z1 z2 (bI f) z3 z4 z5 z6 (nI x) (nI y) (lN c) A' L' R47 R57 post))))) := by
  -- from behind
  have t4 : ∀ (L : xL) (e : Nat → Nat), RQ set e L0 L → (∀ L', RQ set (qI (ac.testBit 3 && decide (x % y = 0)) e (x / y) c mo) L0 L' → ∀ x8 : Int32, x8 = z6 + 1 → R57 x8 A L') → v_X6_join_192 (nI set) z1 z2 (bI f) z3 z4 z5 z6 (nI x) (nI y) (lN c) A L R47 R57 post := by
    intro L e h k
    unfold v_X6_join_192
    refine s_may (k := 3) hac h16 (by omega) ?_
    have hn : ¬ nI y = 0 := nI_ne0 (by omega) (by omega)
    refine ⟨fun c1 => k L ?_, fun c1 => ⟨hn, ?_⟩⟩
    · rw [aI_0.1 c1]; exact h
    · rw [pk_rem (by omega) (by omega) (by omega), pk_div (by omega) (by omega) (by omega)]
      have hlt := Nat.mod_lt x (show 0 < y by omega)
      have hdl := Nat.div_le_self x y
      rw [aI_0.2 c1] at k
      refine ⟨fun c3 => ?_, fun c3 => ⟨hn, ?_⟩⟩
      · have : x % y ≠ 0 := fun e2 => c3 (by rw [e2]; rfl)
        refine k L ?_
        rw [decide_eq_false this]
        exact h
      · have : x % y = 0 := (nI_eq (a := x % y) (b := 0) (by omega) (by omega)).mp c3
        rw [decide_eq_true this] at k
        rw [nI_l (by omega)]
        refine q_add h hs hmo hm (Nat.div_pos (Nat.le_of_dvd hx (Nat.dvd_of_mod_eq_zero this)) hy) (by omega) (fun L' J => k L' J)
  have hprod : x * y < 2 ^ 31 := Nat.lt_of_le_of_lt (Nat.mul_le_mul (show x ≤ 3000 by omega) (show y ≤ 3000 by omega)) (by decide)
  have t3 : ∀ (L : xL) (e : Nat → Nat), RQ set e L0 L → (∀ L', RQ set (qI (f && ac.testBit 2) e (x * y) c mo) L0 L' → v_X6_join_192 (nI set) z1 z2 (bI f) z3 z4 z5 z6 (nI x) (nI y) (lN c) A L' R47 R57 post) → v_X6_join_165 (nI set) z1 z2 (bI f) z3 z4 z5 z6 (nI x) (nI y) (lN c) A L R47 R57 post := by
    intro L e h k
    unfold v_X6_join_165
    refine ⟨fun c1 => k L ?_, fun c1 => ?_⟩
    · rw [bI_0.1 c1]; exact h
    · have hf := bI_0.2 c1
      refine s_may (k := 2) hac h16 (by omega) ?_
      refine ⟨fun c1 => k L ?_, fun c1 => ?_⟩
      · rw [aI_0.1 c1, Bool.and_false]; exact h
      · rw [nI_l (by omega), nI_l (by omega), lN_mul]
        refine q_add h hs hmo hm (Nat.mul_pos hx hy) hprod (fun L' J => k L' ?_)
        rw [hf, aI_0.2 c1]
        exact J
  have t2 : ∀ (L : xL) (e : Nat → Nat), RQ set e L0 L → (∀ L', RQ set (qI (ac.testBit 1 && decide (y < x)) e (x - y) c mo) L0 L' → v_X6_join_165 (nI set) z1 z2 (bI f) z3 z4 z5 z6 (nI x) (nI y) (lN c) A L' R47 R57 post) → v_X6_join_137 (nI set) z1 z2 (bI f) z3 z4 z5 z6 (nI x) (nI y) (lN c) A L R47 R57 post := by
    intro L e h k
    unfold v_X6_join_137
    refine s_may (k := 1) hac h16 (by omega) ?_
    refine ⟨fun c1 => k L ?_, fun c1 => ?_⟩
    · rw [aI_0.1 c1]; exact h
    · rw [aI_0.2 c1] at k
      refine pk_le x y (fun c2 => k L ?_) (fun c2 => ?_)
      · rw [decide_eq_false (by omega)]; exact h
      · rw [pk_sub (by omega), nI_l (by omega)]
        refine q_add h hs hmo hm (by omega) (by omega) (fun L' J => k L' ?_)
        rw [decide_eq_true c2]
        exact J
  have t1 : (∀ L', RQ set (qI (f && ac.testBit 0) e (x + y) c mo) L0 L' → v_X6_join_137 (nI set) z1 z2 (bI f) z3 z4 z5 z6 (nI x) (nI y) (lN c) A L' R47 R57 post) → (bI f = 0 → v_X6_join_137 (nI set) z1 z2 (bI f) z3 z4 z5 z6 (nI x) (nI y) (lN c) A L R47 R57 post) ∧ (¬ bI f = 0 → v_X6_may (0 : Int32) A L (fun r => ((r = 0 → v_X6_join_137 (nI set) z1 z2 (bI f) z3 z4 z5 z6 (nI x) (nI y) (lN c) A L R47 R57 post) ∧ (¬ r = 0 → v_X6_add (nI set) ((nI x + nI y)).toInt64 (lN c) A L (fun A' L' => v_X6_join_137 (nI set) z1 z2 (bI f) z3 z4 z5 z6 (nI x) (nI y) (lN c) A' L' R47 R57 post))))) := by
    intro k
    refine ⟨fun c1 => k L ?_, fun c1 => ?_⟩
    · rw [bI_0.1 c1]; exact h
    · have hf := bI_0.2 c1
      refine s_may (k := 0) hac h16 (by omega) ?_
      refine ⟨fun c1 => k L ?_, fun c1 => ?_⟩
      · rw [aI_0.1 c1, Bool.and_false]; exact h
      · rw [nI_add, nI_l (by omega)]
        refine q_add h hs hmo hm (by omega) (by omega) (fun L' J => k L' ?_)
        rw [hf, aI_0.2 c1]
        exact J
  exact t1 fun L1 J1 => t2 L1 _ J1 fun L2 J2 => t3 L2 _ J2 fun L3 J3 => t4 L3 _ J3 fun L4 J4 => k L4 (J4.cong fun u hu _ => q_eq hx hy e c u hu)
/-- a row's list -/
def RLs (A : xM) (g : Nat) (p : Nat → Nat) (n : Nat) (f : Nat → Nat) : Prop := n ≤ 3000 ∧ (∀ i, i < n → A g i = nI (f i) ∧ 1 ≤ f i ∧ f i < 3001 ∧ 0 < p (f i)) ∧ (∀ i j, i < n → j < n → f i = f j → i = j) ∧ ∀ v, 1 ≤ v → v < 3001 → 0 < p v → ∃ i, i < n ∧ f i = v
theorem q_list {g set : Nat} {A : xM} {L : xL} {p : Nat → Nat} (hs : set < 64) (hp : ∀ v, 1 ≤ v → v < 3001 → L 28 (3001 * set + v) = lN (p v) ∧ p v < 2 ^ 62) {post : Int32 → xM → xL → Prop} (k : ∀ (n : Nat) (f : Nat → Nat) (A' : xM), RLs A' g p n f → (∀ a b, a ≠ g → A' a b = A a b) → post (nI n) A' L) : v_X6_listOf g (nI set) A L post := by
  unfold v_X6_listOf
  refine pk_loop (σ := Int32 × xM) (fun n i s => v_X6_listOf_5 g (nI set) post n s.1 (nI i) s.2 L)
    (fun i s => 1 ≤ i ∧ ∃ (n : Nat) (f : Nat → Nat), s.1 = nI n ∧ n < i ∧ (∀ a b, a ≠ g → s.2 a b = A a b) ∧ (∀ t, t < n → s.2 g t = nI (f t) ∧ 1 ≤ f t ∧ f t < i ∧ 0 < p (f t)) ∧ (∀ a b, a < b → b < n → f a < f b) ∧ ∀ v, 1 ≤ v → v < i → 0 < p v → ∃ t, t < n ∧ f t = v) 3001 1 (0, A) (by omega)
    ⟨Nat.le_refl _, 0, fun _ => 0, rfl, by omega, fun _ _ _ => rfl, fun t ht => by omega, fun a b _ hb => by omega, fun v h1 h2 => by omega⟩ (fun n s hI => ?_) (fun n i s hi hI kk => ?_)
  · obtain ⟨-, m, f, i1, i2, i3, i4, i5, i6⟩ := hI
    unfold v_X6_listOf_5
    refine pk_lt 3000 3001 (fun _ => ?_) (fun c => absurd c (by omega))
    rw [i1]
    refine k m f s.2 ⟨by omega, i4, fun a b ha hb e => ?_, i6⟩ i3
    rcases Nat.lt_trichotomy a b with h | h | h
    · have := i5 a b h hb; omega
    · exact h
    · have := i5 b a h ha; omega
  · obtain ⟨hi1, m, f, i1, i2, i3, i4, i5, i6⟩ := hI
    unfold v_X6_listOf_5
    refine pk_lt 3000 i (fun c => absurd c (by omega)) (fun _ => ?_)
    rw [ix_nI, nI_clamp (by omega), (hp i hi1 hi).1, lg_cmp_le]
    have hz : lN (p i) ≤ 0 ↔ p i = 0 := by
      have := (hp i hi1 hi).2
      have h9 := pk_lLE (a := p i) (b := 0) (by omega) (by omega)
      exact h9.trans (by omega)
    have nxt : ∀ x3 : Int32, x3 = nI i + 1 → x3 = nI (i + 1) := fun x3 ex => by rw [ex]; exact nI_1 i
    refine ⟨pk_in (3001 * set + i) _ (by omega), fun c x4 e4 => ?_, fun c => ?_⟩
    · rw [nxt x4 e4]
      refine kk s ⟨by omega, m, f, i1, by omega, i3, fun t ht => ⟨(i4 t ht).1, (i4 t ht).2.1, by have := (i4 t ht).2.2.1; omega, (i4 t ht).2.2.2⟩, i5, fun v h1 h2 h3 => ?_⟩
      by_cases e : v = i
      · subst e; have := hz.mp c; omega
      · exact i6 v h1 (by omega) h3
    · have hpos : 0 < p i := Nat.pos_of_ne_zero fun e => c (hz.mpr e)
      rw [i1, nI_clamp (show m < 2 ^ 31 by omega)]
      refine ⟨pk_in m _ (by omega), fun A6 e6 x7 e7 x8 e8 => ?_⟩
      have e7 : x7 = nI (m + 1) := by rw [e7]; exact nI_1 m
      subst e7
      rw [nxt x8 e8]
      refine kk (nI (m + 1), A6) ⟨by omega, m + 1, fun t => if t = m then i else f t, rfl, by omega, fun a b hab => ?_, fun t ht => ?_, fun a b hab hb => ?_, fun v h1 h2 h3 => ?_⟩
      · show A6 a b = _
        rw [e6]; unfold xu; rw [if_neg (by omega)]; exact i3 a b hab
      · show A6 g t = _ ∧ _
        rw [e6]; unfold xu
        by_cases e : t = m
        · subst e; simp; exact ⟨by omega, hpos⟩
        · simp only [e, and_false, if_false]
          have := i4 t (by omega)
          exact ⟨this.1, this.2.1, by omega, this.2.2.2⟩
      · show (if a = m then i else f a) < (if b = m then i else f b)
        rw [if_neg (by omega)]
        by_cases e : b = m
        · rw [if_pos e]; exact (i4 a (by omega)).2.2.1
        · rw [if_neg e]; exact i5 a b hab (by omega)
      · by_cases e : v = i
        · exact ⟨m, by omega, by simp [e]⟩
        · obtain ⟨t, h4, h5⟩ := i6 v h1 (by omega) h3
          exact ⟨t, by omega, by simp [show t ≠ m by omega]; exact h5⟩
