/-! make, refresh: a heap's rows are what its items and the rules say -/
theorem JJ.tr {q : Nat} {A0 A A2 : xM} {L0 L L2 : xL} {P P' : Nat → Nat → Nat} {fl fl' : Nat → Nat → Nat} {nf nf' : Nat → Nat} {set : Nat} {e2 : Nat → Nat} (h2 : HF q A0 L0 A L) (h3 : ∀ s, s ≠ set → nf' s = nf s ∧ ∀ i, fl' s i = fl s i) (h4 : ∀ s u, s ≠ set → u < 3001 → P' s u = P s u) (h : JJ q A L P' fl' nf' set e2 A2 L2) : JJ q A0 L0 P fl nf set e2 A2 L2 := by
  obtain ⟨P2, fl2, nf2, k1, k2, k3, k4⟩ := h
  refine ⟨P2, fl2, nf2, k1, h2.tr k2, fun s hs => ⟨(k3 s hs).1.trans (h3 s hs).1, fun i => ((k3 s hs).2 i).trans ((h3 s hs).2 i)⟩, fun s u hu => ?_⟩
  rw [k4 s u hu]
  by_cases e : s = set
  · simp [e]
  · simp [e, h4 s u e hu]
theorem w_fin3 : ∀ set, set < 64 → ∀ k, k < 64 → wpB set k = true → wtB k ≤ 430080 := by decide +kernel
theorem w_fin4 : ∀ set, set < 64 → (∀ k, k < set &&& (64 - set) → ¬ (wpB set k = true ∧ wfB set k = true)) ∧ nI set &&& (-nI set) = nI (set &&& (64 - set)) ∧ (1 ≤ set → set &&& (64 - set) ≤ set) ∧ set &&& (64 - set) < 64 := by decide +kernel
theorem w_fin5 : ∀ set, set < 64 → (∀ k, k < 6 → (set = 2 ^ k ↔ wb set = k)) ∧ (wb set < 6 → set = 2 ^ wb set) ∧ (1 ≤ set → wb set = 6 → wpB set set = false) := by decide +kernel
theorem w_fin6 : ∀ set, set < 64 → ∀ k, k < set → 1 ≤ k → (wpB set k = true ↔ k &&& set = k) := by decide +kernel
theorem w_shl : ∀ k, k < 16 → (1 : Int32) <<< (nI k &&& 31) = nI (2 ^ k) := by decide +kernel
theorem wH_jS {ac mo : Nat} {c : Nat → Nat → Nat} {set left u : Nat} : jS ac mo (c left) (c (set ^^^ left)) u = if u ≤ mo then wH ac c set u left else 0 := by
  unfold jS jT wg wH
  split
  · rfl
  · simp only [Nat.mul_zero]
    exact sm_zero fun x _ => sm_zero fun y _ => rfl
theorem jS_cong {ac mo : Nat} {p1 p2 q1 q2 : Nat → Nat} (h1 : ∀ v, v < 3001 → p1 v = q1 v) (h2 : ∀ v, v < 3001 → p2 v = q2 v) (u : Nat) : jS ac mo p1 p2 u = jS ac mo q1 q2 u := by
  unfold jS jT
  exact fb_sm_cong fun x hx => fb_sm_cong fun y hy => by rw [h1 x hx, h2 y hy]
theorem s_make {q : Nat} (hq : q < 2) {A : xM} {L : xL} {P : Nat → Nat → Nat} {fl : Nat → Nat → Nat} {nf : Nat → Nat} (hv : HV q A L P fl nf) {set ac mo : Nat} {it : Nat → Nat} (hs : set < 64 - 48 * q) (hs1 : 1 ≤ set) (hac : A 1 0 = nI ac) (hmo : A 1 1 = nI mo) (hm : mo ≤ 3000) (h0 : ∀ u, u < 3001 → P set u = 0)
    (hit : ∀ k, set.testBit k = true → A (3 + 6 * q) k = nI (it k) ∧ 1 ≤ it k ∧ it k ≤ 3000) (hp : ∀ l, wpB set l = true → ∀ u, u < 3001 → P l u = wW ac mo it l u) {post : xM → xL → Prop}
    (h : ∀ (A' : xM) (L' : xL), JJ q A L P fl nf set (wW ac mo it set) A' L' → post A' L') : v_X1_make q (nI set) A L post := by
  have h64 : set < 64 := by omega
  have w5 := w_fin5 set h64
  have hwb : wb set < 6 - 2 * q ∨ wb set = 6 := by
    by_cases c : wb set < 6
    · refine Or.inl (Nat.lt_of_not_le fun c2 => ?_)
      have e := w5.2.1 c
      have : 2 ^ (6 - 2 * q) ≤ 2 ^ wb set := Nat.pow_le_pow_right (by decide) c2
      rcases (show q = 0 ∨ q = 1 by omega) with rfl | rfl
      · omega
      · have h9 : 2 ^ (6 - 2 * 1) = 16 := by decide
        omega
    · right
      unfold wb at c ⊢
      repeat' split at c
      all_goals first | omega | (repeat' split) <;> first | omega | rfl
  have J0 : JJ q A L P fl nf set (fun _ => 0) A L := ⟨P, fl, nf, hv, HF.rf, fun _ _ => ⟨rfl, fun _ => rfl⟩, fun s u hu => by
    by_cases e : s = set
    · subst e; simp [h0 u hu]
    · simp [e]⟩
  unfold v_X1_make
  refine pk_loop (σ := Unit) (fun n i _ => v_X1_make_2 q (nI set) post n (nI i) A L) (fun i _ => ∀ k, k < i → wb set ≠ k) (if wb set < 6 - 2 * q then wb set else 6 - 2 * q) 0 () (Nat.zero_le _) (fun k hk => by omega) (fun n _ hI => ?_) (fun n i _ hi hI k => ?_)
  · unfold v_X1_make_2
    by_cases c : wb set < 6 - 2 * q
    · rw [if_pos c] at hI ⊢
      refine pk_le (6 - 2 * q) (wb set) (fun c2 => absurd c2 (by omega)) (fun _ => ?_)
      rw [w_shl _ (by omega)]
      have e := w5.2.1 (by omega)
      have hpw : 2 ^ wb set < 2 ^ 31 := by omega
      refine ⟨fun c2 => absurd (congrArg nI e) c2, fun _ => ⟨pk_in (wb set) _ c rfl (by omega), ?_⟩⟩
      have hb : set.testBit (wb set) = true := by
        have h9 : (2 ^ wb set).testBit (wb set) = true := by simp
        rw [← e] at h9
        exact h9
      obtain ⟨a1, a2, a3⟩ := hit _ hb
      rw [nI_clamp (show wb set < 2 ^ 31 by omega), a1]
      refine j_add hq J0 hs (by omega) (c := 1) (by omega) (bd := 3000) (by omega) (fun u _ => by decide) (fun A' L' J => h A' L' (J.cong fun u hu => ?_))
      rw [wW_eq h64]
      unfold eU
      by_cases c3 : u = it (wb set)
      · rw [if_pos ⟨c3, by omega⟩, if_neg (by omega), if_pos (by omega), if_pos c3]
      · rw [if_neg (fun h => c3 h.1)]
        split
        · rfl
        · simp [c3, show wb set < 6 by omega]
    · rw [if_neg c]
      refine pk_le (6 - 2 * q) (6 - 2 * q) (fun _ x2 ex2 => ?_) (fun c2 => absurd c2 (by omega))
      have hb6 : wb set = 6 := by omega
      have w4 := w_fin4 set h64
      rw [w4.2.1] at ex2
      subst ex2
      generalize hl9 : set &&& (64 - set) = least at w4
      have hle : least ≤ set := w4.2.2.1 hs1
      -- the loop over the left parts
      refine pk_loop (σ := xM × xL) (fun n i s => v_X1_make_47 q (nI set) (nI least) post n (nI i) s.1 s.2)
        (fun i s => 1 ≤ i ∧ JJ q A L P fl nf set (fun u => fb_sm (fun l => if wpB set l = true ∧ wfB set l = true then jS ac mo (wW ac mo it l) (wW ac mo it (set ^^^ l)) u else 0) i) s.1 s.2) set least (A, L) hle ⟨by
          have : ∀ s, s < 64 → 1 ≤ s → s &&& (64 - s) ≠ 0 := by decide +kernel
          have := this set h64 hs1
          omega, J0.cong fun u _ => (sm_zero fun k hk => by rw [if_neg (w4.1 k hk)]).symm⟩ (fun n s hI => ?_) (fun n i s hi hI k => ?_)
      · unfold v_X1_make_47
        have hI := hI.2
        refine pk_le set set (fun _ => h s.1 s.2 (hI.cong fun u hu => ?_)) (fun c2 => absurd c2 (by omega))
        rw [wW_eq h64]
        by_cases cu : u = 0
        · subst cu
          rw [if_pos (by omega)]
          obtain ⟨P', fl', nf', k1, k2, k3, k4⟩ := hI
          have := (k1.1 set hs).2.1
          rw [k4 set 0 (by omega), if_pos rfl] at this
          exact this
        · rw [if_neg (by omega), if_neg (by omega), wS_sym h64]
          split
          · rename_i hum
            refine fb_sm_cong fun l _ => ?_
            rw [wH_jS, if_pos hum]
          · rename_i hum
            refine sm_zero fun l _ => ?_
            rw [wH_jS, if_neg hum]
            split <;> rfl
      · obtain ⟨hi1, hI⟩ := hI
        unfold v_X1_make_47
        refine pk_le set i (fun c2 => absurd c2 (by omega)) (fun _ => ?_)
        rw [fa_and, fa_and]
        have hand : i &&& set ≤ set := Nat.and_le_right
        have hand2 : i &&& least ≤ i := Nat.and_le_left
        have w6 := w_fin6 set h64 i hi (by omega)
        have nxt : ∀ x3 : Int32, x3 = nI i + 1 → x3 = nI (i + 1) := fun x3 ex => by rw [ex]; exact nI_1 i
        have hwf : wfB set i = true ↔ i &&& least ≠ 0 := by unfold wfB; rw [hl9]; simp
        have stay : ¬ (wpB set i = true ∧ wfB set i = true) → JJ q A L P fl nf set (fun u => fb_sm (fun l => if wpB set l = true ∧ wfB set l = true then jS ac mo (wW ac mo it l) (wW ac mo it (set ^^^ l)) u else 0) (i + 1)) s.1 s.2 := fun hn => hI.cong fun u _ => by
          rw [fb_sm_succ, if_neg hn]
          rfl
        refine ⟨fun c1 x3 ex3 => ?_, fun c1 => ?_⟩
        · rw [nxt x3 ex3]
          refine k s ⟨by omega, (stay fun hn => c1 ?_)⟩
          rw [w6.mp hn.1]
        · have c1 : i &&& set = i := (nI_eq (by omega) (by omega)).mp c1
          refine ⟨fun c2 x3 ex3 => ?_, fun c2 => ?_⟩
          · rw [nxt x3 ex3]
            refine k s ⟨by omega, (stay fun hn => (hwf.mp hn.2) ((nI_eq (a := i &&& least) (b := 0) (by omega) (by omega)).mp c2))⟩
          · have c2 : i &&& least ≠ 0 := fun e => c2 (by rw [e]; rfl)
            have hw1 : wpB set i = true := w6.mpr c1
            have hw2 : wfB set i = true := hwf.mpr c2
            have hf := w_fin set h64 i (by omega) hw1
            have hlt := wpB_lt hf.1
            rw [fb_xorI]
            obtain ⟨P', fl', nf', k1, k2, k3, k4⟩ := id hI
            have e1 : ∀ v, v < 3001 → P' i v = wW ac mo it i v := fun v hv9 => by rw [k4 i v hv9, if_neg (by omega), hp i hw1 v hv9]
            have e2 : ∀ v, v < 3001 → P' (set ^^^ i) v = wW ac mo it (set ^^^ i) v := fun v hv9 => by rw [k4 _ v hv9, if_neg (by omega), hp _ hf.1 v hv9]
            have sb : ∀ l, l < 64 → wpB set l = true → fb_sm (wW ac mo it l) 3001 ≤ 430080 := fun l hl hw => Nat.le_trans (wW_sum (l + 1) l (by omega) hl) (w_fin3 set h64 l hl hw)
            refine s_join hq k1 hs (by omega) (by omega) (by omega) (by omega) (by rw [k2.1 1 0 (by omega) (by omega) (by omega)]; exact hac) (by rw [k2.1 1 1 (by omega) (by omega) (by omega)]; exact hmo) hm ?_ ?_ ?_ (fun A' L' J x3 ex3 => ?_)
            · rw [fb_sm_cong e1]
              exact Nat.le_trans (sb i (by omega) hw1) (by decide)
            · rw [fb_sm_cong e2]
              exact Nat.le_trans (sb _ (by omega) hf.1) (by decide)
            · intro u hu
              rw [k4 set u hu, if_pos rfl]
              refine Nat.le_trans (fb_sm_bound (c := 2 ^ 50) fun l hl => ?_) (Nat.le_trans (Nat.mul_le_mul_right _ (show i ≤ 64 by omega)) (by decide))
              split
              · rename_i hw
                refine Nat.le_trans (jS_le u) (Nat.le_trans (Nat.mul_le_mul_left 8 (Nat.mul_le_mul (sb l (by omega) hw.1) (sb _ ?_ ?_))) (by decide))
                · have := wpB_lt (w_fin set h64 l (by omega) hw.1).1; omega
                · exact (w_fin set h64 l (by omega) hw.1).1
              · exact Nat.zero_le _
            · rw [nxt x3 ex3]
              refine k (A', L') ⟨by omega, (J.tr k2 k3 (fun s u hne hu => by rw [k4 s u hu, if_neg hne])).cong fun u hu => ?_⟩
              rw [fb_sm_succ, k4 set u hu, if_pos rfl, if_pos (And.intro hw1 hw2), jS_cong e1 e2]
  · unfold v_X1_make_2
    have hi2 : i < 6 - 2 * q := by split at hi <;> omega
    refine pk_le (6 - 2 * q) i (fun c2 => absurd c2 (by omega)) (fun _ => ?_)
    rw [w_shl _ (by omega)]
    have hne : wb set ≠ i := by split at hi <;> omega
    have hpw : 2 ^ i < 2 ^ 31 := Nat.pow_lt_pow_right (by decide) (by omega)
    refine ⟨fun _ x2 ex2 => ?_, fun c2 => ?_⟩
    · have : x2 = nI (i + 1) := by rw [ex2]; exact nI_1 i
      subst this
      exact k () (fun j hj => by
        by_cases e : j = i
        · subst e; exact hne
        · exact hI j (by omega))
    · have : set = 2 ^ i := (nI_eq (by omega) hpw).mp c2
      exact absurd ((w5.1 i (by omega)).mp this) hne
