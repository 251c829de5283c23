/-! spans -/
def sL (M : Nat) : Nat → Nat × (Nat → Nat)
  | 0 => (0, fun _ => 0)
  | k + 1 => if M / 2 ^ (11 - k) % 2 = 1 then ((sL M k).1 + 1, uF (sL M k).2 (sL M k).1 (k + 1)) else sL M k
theorem sL_s {M k : Nat} : sL M (k + 1) = if M / 2 ^ (11 - k) % 2 = 1 then ((sL M k).1 + 1, uF (sL M k).2 (sL M k).1 (k + 1)) else sL M k := rfl
def sc (M i : Nat) : Nat := fb_sm (fun k => M / 2 ^ (11 - k) % 2) i
theorem sL_c {M : Nat} : ∀ k, (sL M k).1 = sc M k
  | 0 => rfl
  | k + 1 => by
    have h := sL_c (M := M) k
    have e : sc M (k + 1) = sc M k + M / 2 ^ (11 - k) % 2 := rfl
    have := Nat.mod_lt (M / 2 ^ (11 - k)) (show 0 < 2 by decide)
    rw [sL_s]
    split
    · rename_i c
      rw [e, c, ← h]
    · rw [e, h]; omega
set_option maxRecDepth 100000 in
theorem sc_pb : ∀ M, M < 4096 → sc M 12 = pb M := by decide +kernel
theorem sc_le {M k : Nat} (hM : M < 4096) (hk : k ≤ 12) : sc M k ≤ pb M := by
  rw [← sc_pb M hM]
  have := fb_sm_mono (fun k => M / 2 ^ (11 - k) % 2) k (12 - k)
  rw [show k + (12 - k) = 12 by omega] at this
  exact this
theorem sL_in {M : Nat} : ∀ k, k ≤ 12 → ∀ j, j < (sL M k).1 → 1 ≤ (sL M k).2 j ∧ (sL M k).2 j ≤ 12
  | 0, _, j, hj => by
    have hj : j < 0 := hj
    omega
  | k + 1, h, j, hj => by
    have ih := sL_in (M := M) k (by omega)
    rw [sL_s] at hj ⊢
    split
    · rename_i c
      rw [if_pos c] at hj
      have hj : j < (sL M k).1 + 1 := hj
      show 1 ≤ uF (sL M k).2 (sL M k).1 (k + 1) j ∧ uF (sL M k).2 (sL M k).1 (k + 1) j ≤ 12
      unfold uF
      split
      · omega
      · exact ih j (by omega)
    · rename_i c
      rw [if_neg c] at hj
      exact ih j hj
/-- does all from 1 to v hold -/
def sB (r : Nat → Bool) (v : Nat) : Bool := decide (v < fa_first (pM r) 3001)
def rS (n ac mo : Nat) (it : Nat → Nat) (v : Nat) : Bool := decide (0 < aS (wR n ac mo it) (2 ^ n) v)
def sp (ac mo M v : Nat) : Bool := sB (rS (sL M 12).1 ac mo (sL M 12).2) v
theorem s_inspan {M j : Nat} (hM : M < 4096) (h1 : 1 ≤ j) (h2 : j ≤ 12) {post : Int32 → Prop} (h : post (bI (decide (M / 2 ^ (12 - j) % 2 = 1)))) : v_X5_isInSpan (nI M) (nI j) post := by
  unfold v_X5_isInSpan
  rw [show (12 : Int32) = nI 12 from rfl, pk_sub h2, w_shl _ (by omega), fa_bit (by omega), bit_tb]
  refine ⟨fun c => ?_, fun c => ?_⟩
  · rw [c] at h; exact h
  · have : decide (M / 2 ^ (12 - j) % 2 = 1) = true := by
      cases hb : decide (M / 2 ^ (12 - j) % 2 = 1)
      · exact absurd hb c
      · rfl
    rw [this] at h; exact h
theorem c_spans {A : xM} {L : xL} {n1 ac mo n v M : Nat} {it1 : Nat → Nat} {ch1 : Nat} (H : HI 1 A L n1 ac mo it1 ch1) (hac : A 1 0 = nI ac) (hmo : A 1 1 = nI mo) (hm : mo ≤ 3000) (hM : M < 4096) (hp : pb M = n) (hn : n ≤ 3) (hv : v ≤ 100) {post : Int32 → xM → xL → Prop}
    (h : ∀ (A' : xM) (L' : xL) (n' : Nat) (it' : Nat → Nat), HI 1 A' L' n' ac mo it' 0 → HG 1 A L A' L' → post (bI (sp ac mo M v)) A' L') : v_X5_spans (nI M) (nI v) A L post := by
  have hT1 : ¬ hT 1 1 := by unfold hT; omega
  unfold v_X5_spans
  refine pk_loop (σ := xM) (fun f i s => v_X5_spans_5 (nI M) (nI v) post f (nI (sc M (i - 1))) (nI i) s L)
    (fun i s => 1 ≤ i ∧ ∃ m it ch, HI 1 s L m ac mo it ch ∧ HG 1 A L s L ∧ sc M (i - 1) ≤ m ∧ ∀ j, j < sc M (i - 1) → it j = (sL M (i - 1)).2 j) 13 1 A (by omega) ⟨Nat.le_refl _, n1, it1, ch1, H, HG.rf, Nat.zero_le _, fun j hj => by
      have hj : j < 0 := hj
      omega⟩ (fun f s hI => ?_) (fun f i s hi hI kk => ?_)
  · obtain ⟨-, m, it, ch, i1, i2, i3, i4⟩ := hI
    unfold v_X5_spans_5
    refine pk_lt 12 13 (fun _ => ?_) (fun c => absurd c (by omega))
    refine s_shorten (by decide) i1 i3 (fun A1 c1 j1 g1 => ?_)
    have i2 := i2.tr g1
    have j1 := j1.items i4
    refine s_refresh (by decide) j1 (by rw [i2.1 1 0 hT1]; exact hac) (by rw [i2.1 1 1 hT1]; exact hmo) hm (fun A3 L3 j3 g3 => ?_)
    have i2 := i2.tr g3
    obtain ⟨fl, nf, V⟩ := j3.hv
    have hpw : 2 ^ sc M 12 ≤ 16 := HI.pow (q := 1) (by decide) j3.1
    have K := h A3 L3 _ _ j3 i2
    have e : sp ac mo M v = decide (v < fa_first (pM fun v => decide (0 < aS (wR (sc M 12) ac mo (sL M 12).2) (64 - 48 * 1) v)) 3001) := by
      unfold sp sB rS
      rw [sL_c]
      congr 4
      funext u
      rw [aS_R (S := 64 - 48 * 1) hpw]
    rw [e] at K
    refine c_least V ?_
    show (fF (pM fun v => decide (0 < aS (wR (sc M 12) ac mo (sL M 12).2) (64 - 48 * 1) v)) 3001 ≤ nI v → _) ∧ (¬ fF (pM fun v => decide (0 < aS (wR (sc M 12) ac mo (sL M 12).2) (64 - 48 * 1) v)) 3001 ≤ nI v → _)
    generalize (pM fun v => decide (0 < aS (wR (sc M 12) ac mo (sL M 12).2) (64 - 48 * 1) v)) = p at K ⊢
    have hle := fa_first_le p 3001
    have ef : fF p 3001 = nI (fa_first p 3001) := by
      unfold fF
      split
      · rfl
      · rw [show fa_first p 3001 = 3001 by omega]; rfl
    rw [ef]
    refine pk_le (fa_first p 3001) v (fun c => ?_) (fun c => ?_)
    · rw [decide_eq_false (by omega)] at K; exact K
    · rw [decide_eq_true c] at K; exact K
  · obtain ⟨hi1, m, it, ch, i1, i2, i3, i4⟩ := hI
    obtain ⟨k, rfl⟩ : ∃ k, i = k + 1 := ⟨i - 1, by omega⟩
    have e1 : k + 1 - 1 = k := by omega
    have e2 : k + 1 + 1 - 1 = k + 1 := by omega
    rw [e1] at i3 i4 ⊢
    rw [e2] at kk
    unfold v_X5_spans_5
    have esc : sc M (k + 1) = sc M k + M / 2 ^ (11 - k) % 2 := rfl
    have hmod := Nat.mod_lt (M / 2 ^ (11 - k)) (show 0 < 2 by decide)
    have nxt : ∀ x3 : Int32, x3 = nI (k + 1) + 1 → x3 = nI (k + 1 + 1) := fun x3 ex => by rw [ex]; exact nI_1 _
    refine pk_lt 12 (k + 1) (fun c => absurd c (by omega)) (fun _ => s_inspan hM (by omega) (by omega) ?_)
    rw [show 12 - (k + 1) = 11 - k by omega]
    refine ⟨fun c x4 e4 => ?_, fun c => ?_⟩
    · have c : ¬ M / 2 ^ (11 - k) % 2 = 1 := of_decide_eq_false (bI_0.1 c)
      rw [nxt x4 e4]
      have e0 : sc M (k + 1) = sc M k := by rw [esc]; omega
      have := kk s ⟨by omega, m, it, ch, i1, i2, by omega, fun j hj => by
        rw [i4 j (by omega), sL_s, if_neg c]⟩
      rw [e0] at this
      exact this
    · have c : M / 2 ^ (11 - k) % 2 = 1 := of_decide_eq_true (bI_0.2 c)
      have hle := sc_le (k := k + 1) hM (by omega)
      refine s_place (by decide) i1 i3 (by omega) (by omega) (by omega) (fun A6 ch6 j6 g6 x3 e3 x4 e4 => ?_)
      rw [nxt x4 e4]
      have e3 : x3 = nI (sc M k + 1) := by rw [e3]; exact nI_1 _
      have e1 : sc M (k + 1) = sc M k + 1 := by rw [esc]; omega
      have := kk A6 ⟨by omega, _, _, _, j6, i2.tr g6, by split <;> omega, fun j hj => by
        rw [sL_s, if_pos c]
        show uF it (sc M k) (k + 1) j = uF (sL M k).2 (sL M k).1 (k + 1) j
        rw [sL_c]
        unfold uF
        split
        · rfl
        · exact i4 j (by omega)⟩
      rw [e1] at this
      rw [e3]
      exact this
/-- the greatest mask of n numbers that spans; 0: none -/
def SPR (ac mo n v M : Nat) : Prop := M < 4096 ∧ (∀ M', M < M' → M' < 4096 → pb M' = n → sp ac mo M' v = false) ∧ (M = 0 ∨ (pb M = n ∧ sp ac mo M v = true))
theorem SPR.one {ac mo n v M M2 : Nat} (hn : 1 ≤ n) (h : SPR ac mo n v M) (h2 : SPR ac mo n v M2) : M = M2 := by
  have p0 : pb 0 = 0 := by decide
  rcases Nat.lt_trichotomy M M2 with c | c | c
  · rcases h2.2.2 with e | e
    · omega
    · have := h.2.1 M2 c h2.1 e.1
      rw [e.2] at this; exact absurd this (by decide)
  · exact c
  · rcases h.2.2 with e | e
    · omega
    · have := h2.2.1 M c h.1 e.1
      rw [e.2] at this; exact absurd this (by decide)
theorem c_firstSpan {A : xM} {L : xL} {n1 ac mo n v : Nat} {it1 : Nat → Nat} {ch1 : Nat} (H : HI 1 A L n1 ac mo it1 ch1) (hac : A 1 0 = nI ac) (hmo : A 1 1 = nI mo) (hm : mo ≤ 3000) (hn1 : 1 ≤ n) (hn : n ≤ 3) (hv : v ≤ 100) {post : Int32 → xM → xL → Prop}
    (h : ∀ (M : Nat) (A' : xM) (L' : xL) (n' : Nat) (it' : Nat → Nat) (ch' : Nat), SPR ac mo n v M → HI 1 A' L' n' ac mo it' ch' → HG 1 A L A' L' → post (nI M) A' L') : v_X5_firstSpan (nI n) (nI v) A L post := by
  have hT1 : ¬ hT 1 1 := by unfold hT; omega
  unfold v_X5_firstSpan
  refine pk_loop (σ := xM × xL) (fun f i s => v_X5_firstSpan_4 (nI n) (nI v) post f (nI (4095 - i)) s.1 s.2)
    (fun i s => (∃ m it ch, HI 1 s.1 s.2 m ac mo it ch) ∧ HG 1 A L s.1 s.2 ∧ ∀ M', 4095 - i < M' → M' < 4096 → pb M' = n → sp ac mo M' v = false) 4095 0 (A, L) (by omega) ⟨⟨n1, it1, ch1, H⟩, HG.rf, fun M' a b => by omega⟩ (fun f s hI => ?_) (fun f i s hi hI kk => ?_)
  · obtain ⟨⟨m, it, ch, i1⟩, i2, i3⟩ := hI
    unfold v_X5_firstSpan_4
    refine pk_le 0 0 (fun _ => ?_) (fun c => absurd c (by omega))
    exact h 0 s.1 s.2 m it ch ⟨by omega, fun M' a b c => i3 M' (by omega) b c, Or.inl rfl⟩ i1 i2
  · obtain ⟨⟨m, it, ch, i1⟩, i2, i3⟩ := hI
    unfold v_X5_firstSpan_4
    have hpb := pb_12 (4095 - i)
    have nxt : ∀ x3 : Int32, x3 = nI (4095 - i) + (-1) → x3 = nI (4095 - (i + 1)) := fun x3 ex => by
      rw [ex, show 4095 - i = 4095 - (i + 1) + 1 by omega]; exact pk_m1 _
    refine pk_le (4095 - i) 0 (fun c => absurd c (by omega)) (fun _ => s_bc (by omega) ⟨fun c x3 e3 => ?_, fun c => ?_⟩)
    · rw [nxt x3 e3]
      have c : pb (4095 - i) ≠ n := fun e => c (by rw [e])
      refine kk s ⟨⟨m, it, ch, i1⟩, i2, fun M' a b d => ?_⟩
      by_cases e : M' = 4095 - i
      · rw [e] at d; exact absurd d c
      · exact i3 M' (by omega) b d
    · have c : pb (4095 - i) = n := (nI_eq (by omega) (by omega)).mp c
      refine c_spans i1 (by rw [i2.1 1 0 hT1]; exact hac) (by rw [i2.1 1 1 hT1]; exact hmo) hm (by omega) c hn hv (fun A' L' n' it' j1 g1 => ?_)
      refine ⟨fun c2 x3 e3 => ?_, fun c2 => ?_⟩
      · rw [nxt x3 e3]
        refine kk (A', L') ⟨⟨n', it', 0, j1⟩, i2.tr g1, fun M' a b d => ?_⟩
        by_cases e : M' = 4095 - i
        · rw [e]; exact bI_0.1 c2
        · exact i3 M' (by omega) b d
      · exact h (4095 - i) A' L' n' it' 0 ⟨by omega, fun M' a b d => i3 M' a b d, Or.inr ⟨c, bI_0.2 c2⟩⟩ j1 (i2.tr g1)
def sA (M i : Nat) : Int32 := if M = 0 then -1 else nI ((sL M 12).2 i)
theorem sL_old {M j : Nat} : ∀ k d, j < (sL M k).1 → (sL M (k + d)).2 j = (sL M k).2 j ∧ j < (sL M (k + d)).1
  | _, 0, h => ⟨rfl, h⟩
  | k, d + 1, h => by
    have ih := sL_old (M := M) (j := j) k d h
    have e : k + (d + 1) = (k + d) + 1 := by omega
    rw [e, sL_s]
    split
    · refine ⟨?_, by show j < (sL M (k + d)).1 + 1; omega⟩
      show uF (sL M (k + d)).2 (sL M (k + d)).1 (k + d + 1) j = _
      unfold uF
      rw [if_neg (by omega)]; exact ih.1
    · exact ih
theorem c_spanNumber {M i n : Nat} (hM : M < 4096) (hn : M = 0 ∨ pb M = n) (hi : i < n) (hn3 : n ≤ 3) {post : Int32 → Prop} (h : post (sA M i)) : v_X5_spanNumber (nI M) (nI i) post := by
  unfold v_X5_spanNumber
  refine pk_loop (σ := Unit) (fun f t _ => v_X5_spanNumber_4 (nI M) (nI i) post f (nI (sc M (t - 1))) (nI t)) (fun t _ => 1 ≤ t ∧ sc M (t - 1) ≤ i) 13 1 () (by omega) ⟨Nat.le_refl _, Nat.zero_le _⟩ (fun f _ hI => ?_) (fun f t _ ht hI kk => ?_)
  · unfold v_X5_spanNumber_4
    refine pk_lt 12 13 (fun _ => ?_) (fun c => absurd c (by omega))
    unfold sA at h
    rcases hn with e | e
    · rw [if_pos e] at h; exact h
    · have := hI.2
      rw [show 13 - 1 = 12 by omega, sc_pb M hM, e] at this
      omega
  · obtain ⟨ht1, hI⟩ := hI
    obtain ⟨k, rfl⟩ : ∃ k, t = k + 1 := ⟨t - 1, by omega⟩
    have e1 : k + 1 - 1 = k := by omega
    have e2 : k + 1 + 1 - 1 = k + 1 := by omega
    rw [e1] at hI ⊢
    rw [e2] at kk
    unfold v_X5_spanNumber_4
    have esc : sc M (k + 1) = sc M k + M / 2 ^ (11 - k) % 2 := rfl
    have hmod := Nat.mod_lt (M / 2 ^ (11 - k)) (show 0 < 2 by decide)
    have nxt : ∀ x3 : Int32, x3 = nI (k + 1) + 1 → x3 = nI (k + 1 + 1) := fun x3 ex => by rw [ex]; exact nI_1 _
    refine pk_lt 12 (k + 1) (fun c => absurd c (by omega)) (fun _ => s_inspan hM (by omega) (by omega) ?_)
    rw [show 12 - (k + 1) = 11 - k by omega]
    refine ⟨fun c x4 e4 => ?_, fun c => ⟨fun c2 x2 ex2 x4 e4 => ?_, fun c2 => ?_⟩⟩
    · have c : ¬ M / 2 ^ (11 - k) % 2 = 1 := of_decide_eq_false (bI_0.1 c)
      rw [nxt x4 e4]
      have e0 : sc M (k + 1) = sc M k := by rw [esc]; omega
      have := kk () ⟨by omega, by omega⟩
      rw [e0] at this
      exact this
    · have c : M / 2 ^ (11 - k) % 2 = 1 := of_decide_eq_true (bI_0.2 c)
      have c2 : sc M k ≠ i := fun e => c2 (by rw [e])
      rw [nxt x4 e4]
      have ex2 : x2 = nI (sc M k + 1) := by rw [ex2]; exact nI_1 _
      have e1 : sc M (k + 1) = sc M k + 1 := by rw [esc]; omega
      have := kk () ⟨by omega, by omega⟩
      rw [e1] at this
      rw [ex2]
      exact this
    · have c : M / 2 ^ (11 - k) % 2 = 1 := of_decide_eq_true (bI_0.2 c)
      have c2 : sc M k = i := (nI_eq (by omega) (by omega)).mp c2
      have hM0 : M ≠ 0 := fun e => by
        rw [e, Nat.zero_div] at c
        omega
      unfold sA at h
      rw [if_neg hM0] at h
      have o := sL_old (M := M) (j := i) (k + 1) (11 - k) (by
        rw [sL_c, esc]; omega)
      rw [show k + 1 + (11 - k) = 12 by omega] at o
      have : (sL M (k + 1)).2 i = k + 1 := by
        rw [sL_s, if_pos c]
        show uF (sL M k).2 (sL M k).1 (k + 1) i = _
        unfold uF
        rw [if_pos (by rw [sL_c]; exact c2.symm)]
      rw [o.1, this] at h
      exact h
