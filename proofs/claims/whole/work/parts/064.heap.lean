/-! the view of a heap: each set's row of counts is what P says, found lists what it has, holders counts the sets -/
def HR (q : Nat) (A : xM) (L : xL) (P : Nat → Nat → Nat) (fl : Nat → Nat → Nat) (nf : Nat → Nat) (set : Nat) : Prop :=
  (∀ v, v < 3001 → L (36 + 128 * q + set) v = lN (P set v)) ∧ P set 0 = 0 ∧ (∀ v, v < 3001 → P set v < 2 ^ 60) ∧ A (6 + 6 * q) set = nI (nf set) ∧
  (∀ i, i < nf set → A (100 + 80 * q + set) i = nI (fl set i) ∧ fl set i < 3001 ∧ 0 < P set (fl set i)) ∧ (∀ i j, i < nf set → j < nf set → fl set i = fl set j → i = j) ∧ (∀ v, v < 3001 → 0 < P set v → ∃ i, i < nf set ∧ fl set i = v)
def HV (q : Nat) (A : xM) (L : xL) (P : Nat → Nat → Nat) (fl : Nat → Nat → Nat) (nf : Nat → Nat) : Prop :=
  (∀ set, set < 64 - 48 * q → HR q A L P fl nf set) ∧ ∀ v, v < 3001 → A (7 + 6 * q) v = nI (fb_sm (fun set => if 0 < P set v then 1 else 0) (64 - 48 * q))
/-- what a heap's rows' change leaves -/
def HF (q : Nat) (A : xM) (L : xL) (A' : xM) (L' : xL) : Prop :=
  (∀ k j, k ≠ 6 + 6 * q → k ≠ 7 + 6 * q → ¬ (100 + 80 * q ≤ k ∧ k < 100 + 80 * q + (64 - 48 * q)) → A' k j = A k j) ∧ ∀ k j, ¬ (36 + 128 * q ≤ k ∧ k < 36 + 128 * q + (64 - 48 * q)) → L' k j = L k j
theorem HF.rf {q : Nat} {A : xM} {L : xL} : HF q A L A L := ⟨fun _ _ _ _ _ => rfl, fun _ _ _ => rfl⟩
theorem HF.tr {q : Nat} {A A1 A2 : xM} {L L1 L2 : xL} (h : HF q A L A1 L1) (h2 : HF q A1 L1 A2 L2) : HF q A L A2 L2 :=
  ⟨fun k j a b c => (h2.1 k j a b c).trans (h.1 k j a b c), fun k j a => (h2.2 k j a).trans (h.2 k j a)⟩
theorem HR.pos {q : Nat} {A : xM} {L : xL} {P : Nat → Nat → Nat} {fl : Nat → Nat → Nat} {nf : Nat → Nat} {set : Nat} (h : HR q A L P fl nf set) {i : Nat} (hi : i < nf set) : 1 ≤ fl set i := by
  have h1 := (h.2.2.2.2.1 i hi).2.2
  by_cases h0 : fl set i = 0
  · rw [h0, h.2.1] at h1; omega
  · omega
theorem HR.nf_le {q : Nat} {A : xM} {L : xL} {P : Nat → Nat → Nat} {fl : Nat → Nat → Nat} {nf : Nat → Nat} {set : Nat} (h : HR q A L P fl nf set) : nf set ≤ 3000 :=
  fb_holes 3000 (nf set) (fun i => fl set i - 1) (fun i hi => by
    have h1 := (h.2.2.2.2.1 i hi).2.1
    have h2 := h.pos hi
    show fl set i - 1 < 3000
    omega) (fun i j hij hj e => by
    have e : fl set i - 1 = fl set j - 1 := e
    have h2 := h.pos (show i < nf set by omega)
    have h3 := h.pos hj
    have := h.2.2.2.2.2.1 i j (by omega) hj (by omega)
    omega)
/-- a number that isn't in the list: there is room -/
theorem HR.nf_lt {q : Nat} {A : xM} {L : xL} {P : Nat → Nat → Nat} {fl : Nat → Nat → Nat} {nf : Nat → Nat} {set : Nat} (h : HR q A L P fl nf set) {v : Nat} (h1 : 1 ≤ v) (h2 : v < 3001) (h0 : P set v = 0) : nf set < 3000 := by
  have hne : ∀ i, i < nf set → fl set i ≠ v := fun i hi e => by
    have := (h.2.2.2.2.1 i hi).2.2
    rw [e] at this
    omega
  have := fb_holes 3000 (nf set + 1) (fun i => (if i < nf set then fl set i else v) - 1) (fun i hi => by
    by_cases c : i < nf set
    · have h3 := (h.2.2.2.2.1 i c).2.1
      have h4 := h.pos c
      simp only [c, if_true]
      omega
    · simp only [c, if_false]
      omega) (fun i j hij hj e => by
    by_cases c : j < nf set
    · have c2 : i < nf set := by omega
      simp only [c, c2, if_true] at e
      have h4 := h.pos c
      have h5 := h.pos c2
      have := h.2.2.2.2.2.1 i j c2 c (by omega)
      omega
    · have c2 : i < nf set := by omega
      simp only [c, c2, if_true, if_false] at e
      have h5 := h.pos c2
      have := hne i c2
      omega)
  omega
def pU (P : Nat → Nat → Nat) (set v c : Nat) : Nat → Nat → Nat := fun s u => if s = set ∧ u = v then P s u + c else P s u
def fU (fl : Nat → Nat → Nat) (set i v : Nat) : Nat → Nat → Nat := fun s k => if s = set ∧ k = i then v else fl s k
def nU (nf : Nat → Nat) (set n : Nat) : Nat → Nat := fun s => if s = set then n else nf s
theorem hv_inc {q : Nat} (hq : q < 2) {A : xM} {L : xL} {P : Nat → Nat → Nat} {fl : Nat → Nat → Nat} {nf : Nat → Nat} (hv : HV q A L P fl nf) {set v c : Nat} (hs : set < 64 - 48 * q) (h1 : v < 3001) (hp : 0 < P set v) (hb : P set v + c < 2 ^ 60) : HV q A (xul L (36 + 128 * q + set) v (lN (P set v + c))) (pU P set v c) fl nf := by
  have hv0 : v ≠ 0 := fun e => by subst e; rw [(hv.1 set hs).2.1] at hp; omega
  have hpos : ∀ s u, 0 < pU P set v c s u ↔ 0 < P s u := fun s u => by
    unfold pU
    split
    · rename_i h; rw [h.1, h.2]; omega
    · exact Iff.rfl
  refine ⟨fun s hs2 => ?_, fun u hu => ?_⟩
  · obtain ⟨r1, r2, r3, r4, r5, r6, r7⟩ := hv.1 s hs2
    refine ⟨fun u hu => ?_, ?_, fun u hu => ?_, r4, fun i hi => ⟨(r5 i hi).1, (r5 i hi).2.1, (hpos _ _).mpr (r5 i hi).2.2⟩, r6, fun u hu h => r7 u hu ((hpos _ _).mp h)⟩
    · unfold xul pU
      by_cases e : s = set ∧ u = v
      · obtain ⟨e1, e2⟩ := e
        subst e1; subst e2
        simp
      · rw [if_neg (by omega), if_neg e]
        exact r1 u hu
    · unfold pU; rw [if_neg (by omega)]; exact r2
    · unfold pU
      split
      · rename_i e; rw [e.1, e.2]; exact hb
      · exact r3 u hu
  · rw [hv.2 u hu]
    congr 1
    refine fb_sm_cong fun s _ => ?_
    simp only [hpos]
theorem hv_new {q : Nat} (hq : q < 2) {A : xM} {L : xL} {P : Nat → Nat → Nat} {fl : Nat → Nat → Nat} {nf : Nat → Nat} (hv : HV q A L P fl nf) {set v c : Nat} (hs : set < 64 - 48 * q) (h0 : 1 ≤ v) (h1 : v < 3001) (hp : P set v = 0) (hc : 0 < c) (hb : P set v + c < 2 ^ 60) :
    HV q (xu (xu (xu A (100 + 80 * q + set) (nf set) (nI v)) (6 + 6 * q) set (nI (nf set) + 1)) (7 + 6 * q) v (A (7 + 6 * q) v + 1)) (xul L (36 + 128 * q + set) v (lN (P set v + c))) (pU P set v c) (fU fl set (nf set) v) (nU nf set (nf set + 1)) := by
  have hlt := (hv.1 set hs).nf_lt h0 h1 hp
  have hne : ∀ i, i < nf set → fl set i ≠ v := fun i hi e => by
    have := ((hv.1 set hs).2.2.2.2.1 i hi).2.2
    rw [e] at this
    omega
  refine ⟨fun s hs2 => ?_, fun u hu => ?_⟩
  · obtain ⟨r1, r2, r3, r4, r5, r6, r7⟩ := hv.1 s hs2
    by_cases e : s = set
    · subst e
      refine ⟨fun u hu => ?_, ?_, fun u hu => ?_, ?_, fun i hi => ?_, fun i j hi hj hij => ?_, fun u hu h => ?_⟩
      · unfold xul pU
        by_cases e : u = v
        · subst e; simp
        · simp [e]; exact r1 u hu
      · unfold pU; rw [if_neg (by omega)]; exact r2
      · unfold pU
        by_cases e : u = v
        · subst e; simp; omega
        · simp [e]; exact r3 u hu
      · unfold xu nU
        rw [if_neg (by omega), if_pos ⟨rfl, rfl⟩, if_pos rfl]
        exact nI_1 _
      · have hi : i < nU nf s (nf s + 1) s := hi
        simp only [nU, if_true] at hi
        unfold xu fU pU
        by_cases e : i = nf s
        · subst e
          simp only [and_self, if_true]
          rw [if_neg (by omega), if_neg (by omega)]
          exact ⟨rfl, h1, by omega⟩
        · have h9 := r5 i (by omega)
          simp only [e, and_false, if_false]
          rw [if_neg (by omega), if_neg (by omega)]
          refine ⟨h9.1, h9.2.1, ?_⟩
          split <;> omega
      · have hi : i < nU nf s (nf s + 1) s := hi
        have hj : j < nU nf s (nf s + 1) s := hj
        simp only [nU, if_true] at hi hj
        have hij : fU fl s (nf s) v s i = fU fl s (nf s) v s j := hij
        unfold fU at hij
        by_cases e1 : i = nf s <;> by_cases e2 : j = nf s
        · omega
        · simp [e1, e2] at hij
          exact absurd hij.symm (hne j (by omega))
        · simp [e1, e2] at hij
          exact absurd hij (hne i (by omega))
        · simp [e1, e2] at hij
          exact r6 i j (by omega) (by omega) hij
      · by_cases e : u = v
        · exact ⟨nf s, by simp [nU], by simp [fU, e]⟩
        · have h : 0 < pU P s v c s u := h
          simp [pU, e] at h
          obtain ⟨i, hi, hi2⟩ := r7 u hu h
          refine ⟨i, by simp [nU]; omega, ?_⟩
          simp [fU, show i ≠ nf s by omega]
          exact hi2
    · have ep : ∀ u, pU P set v c s u = P s u := fun u => by simp [pU, e]
      have ef : ∀ i, fU fl set (nf set) v s i = fl s i := fun i => by simp [fU, e]
      have en : nU nf set (nf set + 1) s = nf s := by simp [nU, e]
      refine ⟨fun u hu => ?_, by rw [ep]; exact r2, fun u hu => by rw [ep]; exact r3 u hu, ?_, fun i hi => ?_, fun i j hi hj hij => ?_, fun u hu h => ?_⟩
      · rw [ep]
        unfold xul
        rw [if_neg (by omega)]
        exact r1 u hu
      · rw [en]
        unfold xu
        rw [if_neg (by omega), if_neg (by omega), if_neg (by omega)]
        exact r4
      · rw [en] at hi
        rw [ef, ep]
        unfold xu
        rw [if_neg (by omega), if_neg (by omega), if_neg (by omega)]
        exact r5 i hi
      · rw [en] at hi hj
        rw [ef, ef] at hij
        exact r6 i j hi hj hij
      · rw [ep] at h
        obtain ⟨i, hi, hi2⟩ := r7 u hu h
        exact ⟨i, by rw [en]; exact hi, by rw [ef]; exact hi2⟩
  · unfold xu
    by_cases e : u = v
    · subst e
      rw [if_pos ⟨rfl, rfl⟩, hv.2 u hu, nI_1]
      congr 1
      have h2 := fb_sm_upd (fun s => if 0 < P s u then 1 else 0) 1 hs
      simp only [hp, Nat.lt_irrefl, if_false, Nat.add_zero] at h2
      rw [← h2]
      refine fb_sm_cong fun s _ => ?_
      unfold pU
      by_cases e2 : s = set
      · subst e2; simp; omega
      · simp [e2]
    · rw [if_neg (by omega), if_neg (by omega), if_neg (by omega), hv.2 u hu]
      congr 1
      refine fb_sm_cong fun s _ => ?_
      simp [pU, e]
/-- add: nothing, or one more -/
theorem s_add {q : Nat} (hq : q < 2) {A : xM} {L : xL} {P : Nat → Nat → Nat} {fl : Nat → Nat → Nat} {nf : Nat → Nat} (hv : HV q A L P fl nf) {set v c bd : Nat} (hs : set < 64 - 48 * q) (hvb : v < 2 ^ 31) (hc : 0 < c) (hbd : bd < 2 ^ 31) (hb : ∀ u, u < 3001 → P set u + c < 2 ^ 60) {post : xM → xL → Prop}
    (h : ∀ (A' : xM) (L' : xL) (P' : Nat → Nat → Nat) (fl' : Nat → Nat → Nat) (nf' : Nat → Nat), HV q A' L' P' fl' nf' → HF q A L A' L' → P' = (if 1 ≤ v ∧ v ≤ bd ∧ v ≤ 3000 then pU P set v c else P) → (∀ s, s ≠ set → nf' s = nf s ∧ ∀ i, fl' s i = fl s i) → post A' L') : v_X1_add q (nI set) (nI v) (lN c) (nI bd) A L post := by
  have e1 : (nI set).toNatClampNeg = set := nI_clamp (by omega)
  have e2 : (nI v).toNatClampNeg = v := nI_clamp hvb
  unfold v_X1_add
  refine pk_lt v 1 (fun c1 => h A L P fl nf hv HF.rf (by rw [if_neg (by omega)]) (fun _ _ => ⟨rfl, fun _ => rfl⟩)) (fun c1 => ?_)
  refine pk_lt bd v (fun c2 => h A L P fl nf hv HF.rf (by rw [if_neg (by omega)]) (fun _ _ => ⟨rfl, fun _ => rfl⟩)) (fun c2 => ?_)
  refine pk_le v 3000 (fun c3 => ?_) (fun c3 => h A L P fl nf hv HF.rf (by rw [if_neg (by omega)]) (fun _ _ => ⟨rfl, fun _ => rfl⟩))
  have hr := hv.1 set hs
  obtain ⟨r1, r2, r3, r4, r5, r6, r7⟩ := id hr
  refine ⟨pk_in set _ hs rfl (by omega), pk_in v 3001 (by omega), ?_⟩
  rw [e1, e2, r1 v (by omega)]
  have hz : lg_cmp (lN (P set v)) 0 = 0 ↔ P set v = 0 := by
    rw [lg_cmp_eq]
    have := r3 v (by omega)
    exact pk_lEQ (a := P set v) (b := 0) (by omega) (by omega)
  have tail : ∀ (A2 : xM) (P' : Nat → Nat → Nat) (fl' : Nat → Nat → Nat) (nf' : Nat → Nat), HV q A2 (xul L (36 + 128 * q + set) v (lN (P set v + c))) P' fl' nf' → HF q A L A2 L → P' = pU P set v c → (∀ s, s ≠ set → nf' s = nf s ∧ ∀ i, fl' s i = fl s i) → v_X1_add_78 q (nI set) (nI v) (lN c) A2 L post := by
    intro A2 P' fl' nf' k1 k2 k3 k4
    unfold v_X1_add_78
    refine ⟨pk_in set _ hs rfl (by omega), pk_in v 3001 (by omega), fun L3 eL3 => ?_⟩
    rw [e1, e2, r1 v (by omega), lN_add] at eL3
    subst eL3
    exact h A2 _ P' fl' nf' k1 (k2.tr ⟨fun _ _ _ _ _ => rfl, fun k j hk => by unfold xul; rw [if_neg (by omega)]⟩) (by rw [if_pos (by omega)]; exact k3) k4
  refine ⟨fun c4 => ?_, fun c4 => ?_⟩
  · have hp : 0 < P set v := Nat.pos_of_ne_zero (fun e => c4 (hz.mpr e))
    exact tail A _ fl nf (hv_inc hq hv hs (by omega) hp (hb v (by omega))) HF.rf rfl (fun _ _ => ⟨rfl, fun _ => rfl⟩)
  · have hp : P set v = 0 := hz.mp c4
    have hlt := hr.nf_lt (v := v) (by omega) (by omega) hp
    rw [r4]
    refine pk_le 3000 (nf set) (fun c5 => absurd c5 (by omega)) (fun c5 => ?_)
    refine ⟨pk_in (nf set) 3000 hlt, fun A9 eA9 A10 eA10 A11 eA11 => ?_⟩
    rw [nI_clamp (show nf set < 2 ^ 31 by omega)] at eA9
    have a10 : A9 (6 + 6 * q) set = nI (nf set) := by rw [eA9]; unfold xu; rw [if_neg (by omega)]; exact r4
    have a11 : A10 (7 + 6 * q) v = A (7 + 6 * q) v := by rw [eA10, eA9]; unfold xu; rw [if_neg (by omega), if_neg (by omega)]
    rw [a10] at eA10
    rw [a11] at eA11
    subst eA9 eA10
    have hn := hv_new hq hv hs (by omega) (by omega) hp hc (hb v (by omega))
    rw [← eA11] at hn
    refine tail A11 _ _ _ hn ?_ rfl (fun s hs2 => ⟨by simp [nU, hs2], fun i => by simp [fU, hs2]⟩)
    subst eA11
    exact ⟨fun k j h1 h2 h3 => by unfold xu; rw [if_neg (by omega), if_neg (by omega), if_neg (by omega)], fun _ _ _ => rfl⟩
