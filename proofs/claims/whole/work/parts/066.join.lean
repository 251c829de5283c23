theorem HV.cong {q : Nat} {A : xM} {L : xL} {P P2 : Nat → Nat → Nat} {fl : Nat → Nat → Nat} {nf : Nat → Nat} (h : HV q A L P fl nf) (e : ∀ s u, s < 64 - 48 * q → u < 3001 → P s u = P2 s u) : HV q A L P2 fl nf := by
  refine ⟨fun s hs => ?_, fun v hv => ?_⟩
  · obtain ⟨r1, r2, r3, r4, r5, r6, r7⟩ := h.1 s hs
    refine ⟨fun v hv => by rw [← e s v hs hv]; exact r1 v hv, by rw [← e s 0 hs (by omega)]; exact r2, fun v hv => by rw [← e s v hs hv]; exact r3 v hv, r4, fun i hi => ⟨(r5 i hi).1, (r5 i hi).2.1, by rw [← e s _ hs (r5 i hi).2.1]; exact (r5 i hi).2.2⟩, r6, fun v hv hp => r7 v hv (by rw [e s v hs hv]; exact hp)⟩
  · rw [h.2 v hv]
    congr 1
    exact fb_sm_cong fun s hs => by rw [e s v hs hv]
/-- in the midst of the making of a set: its row holds e, the others stay -/
def JJ (q : Nat) (A0 : xM) (L0 : xL) (P : Nat → Nat → Nat) (fl : Nat → Nat → Nat) (nf : Nat → Nat) (set : Nat) (e : Nat → Nat) (A : xM) (L : xL) : Prop :=
  ∃ (P' : Nat → Nat → Nat) (fl' : Nat → Nat → Nat) (nf' : Nat → Nat), HV q A L P' fl' nf' ∧ HF q A0 L0 A L ∧ (∀ s, s ≠ set → nf' s = nf s ∧ ∀ i, fl' s i = fl s i) ∧ ∀ s u, u < 3001 → P' s u = if s = set then e u else P s u
def eU (e : Nat → Nat) (v c bd : Nat) : Nat → Nat := fun u => if u = v ∧ 1 ≤ v ∧ v ≤ bd ∧ v ≤ 3000 then e u + c else e u
theorem j_add {q : Nat} (hq : q < 2) {A0 A : xM} {L0 L : xL} {P : Nat → Nat → Nat} {fl : Nat → Nat → Nat} {nf : Nat → Nat} {set : Nat} {e : Nat → Nat} (hJ : JJ q A0 L0 P fl nf set e A L) {v c bd : Nat} (hs : set < 64 - 48 * q) (hvb : v < 2 ^ 31) (hc : 0 < c) (hbd : bd < 2 ^ 31) (hb : ∀ u, u < 3001 → e u + c < 2 ^ 60) {post : xM → xL → Prop}
    (h : ∀ (A' : xM) (L' : xL), JJ q A0 L0 P fl nf set (eU e v c bd) A' L' → post A' L') : v_X1_add q (nI set) (nI v) (lN c) (nI bd) A L post := by
  obtain ⟨P', fl', nf', h1, h2, h3, h4⟩ := hJ
  refine s_add hq h1 hs hvb hc hbd (fun u hu => by rw [h4 set u hu, if_pos rfl]; exact hb u hu) (fun A' L' P2 fl2 nf2 k1 k2 k3 k4 => h A' L' ⟨P2, fl2, nf2, k1, h2.tr k2, fun s hs2 => ⟨(k4 s hs2).1.trans (h3 s hs2).1, fun i => ((k4 s hs2).2 i).trans ((h3 s hs2).2 i)⟩, fun s u hu => ?_⟩)
  rw [k3]
  unfold eU
  by_cases c1 : 1 ≤ v ∧ v ≤ bd ∧ v ≤ 3000
  · rw [if_pos c1]
    unfold pU
    by_cases e1 : s = set
    · subst e1
      by_cases e2 : u = v
      · subst e2
        simp [c1, h4 s u hu]
      · simp [e2, h4 s u hu]
    · simp [e1, h4 s u hu]
  · rw [if_neg c1, h4 s u hu]
    by_cases e1 : s = set
    · simp only [e1, if_true]
      rw [if_neg (fun h => c1 h.2)]
    · simp [e1]
theorem n_abs {x y : Nat} (hx : x < 2 ^ 30) (hy : y < 2 ^ 30) : (if (0 : Int32) ≤ nI x - nI y then nI x - nI y else 0 - (nI x - nI y)) = nI (if y ≤ x then x - y else y - x) := by
  have h := pk_sub_toInt hx hy
  by_cases c : y ≤ x
  · have h1 : (0 : Int32) ≤ nI x - nI y := by
      rw [fa_le, h]
      show (0 : Int) ≤ _
      omega
    rw [if_pos h1, if_pos c, pk_sub c]
  · have h1 : ¬ (0 : Int32) ≤ nI x - nI y := by
      rw [fa_le, h]
      show ¬ (0 : Int) ≤ _
      omega
    rw [if_neg h1, if_neg c, ← pk_sub (show x ≤ y by omega)]
    rw [Int32.zero_sub, Int32.neg_sub]
/-- whether an act is told, as an int -/
def aI (ac k : Nat) : Int32 := if ac.testBit k = true then 1 else 0
theorem s_allow {A : xM} {L : xL} {ac k : Nat} (hac : A 1 0 = nI ac) (hk : k < 4) {post : Int32 → Prop} (h : post (aI ac k)) : v_X3_allow (nI k) A L post := by
  unfold v_X3_allow
  rw [hac]
  have e : (1 : Int32) <<< (nI k &&& 31) = nI (2 ^ k) := by
    rcases (show k = 0 ∨ k = 1 ∨ k = 2 ∨ k = 3 by omega) with rfl | rfl | rfl | rfl <;> decide
  rw [e]
  have hb := fa_bit (n := ac) (j := k) (by omega)
  refine ⟨fun c => ?_, fun c => ?_⟩
  · have := hb.mp c
    unfold aI at h
    rw [this] at h
    exact h
  · have : ac.testBit k = true := by
      cases hh : ac.testBit k
      · exact absurd (hb.mpr hh) c
      · rfl
    unfold aI at h
    rw [this] at h
    exact h
theorem aI_0 {ac k : Nat} : (aI ac k = 0 → ac.testBit k = false) ∧ (¬ aI ac k = 0 → ac.testBit k = true) := by
  unfold aI
  cases ac.testBit k <;> simp
/-- one pair's share -/
def wg (ac mo x y v : Nat) : Nat := if v ≤ mo then wc ac true x y v + wc ac false y x v else 0
