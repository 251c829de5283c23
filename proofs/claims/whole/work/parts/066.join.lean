theorem HV.cong {q : Nat} {A : xM} {L : xL} {P P2 : Nat → Nat → Nat} {fl : Nat → Nat → Nat} {nf : Nat → Nat} (h : HV q A L P fl nf) (e : ∀ s u, s < 64 - 48 * q → u < 3001 → P s u = P2 s u) : HV q A L P2 fl nf := by
  refine ⟨fun s hs => ?_, fun v hv => ?_⟩
  · obtain ⟨r1, r2, r3, r4, r5, r6, r7⟩ := h.1 s hs
    refine ⟨fun v hv => by rw [← e s v hs hv]; exact r1 v hv, by rw [← e s 0 hs (by omega)]; exact r2, fun v hv => by rw [← e s v hs hv]; exact r3 v hv, r4, fun i hi => ⟨(r5 i hi).1, (r5 i hi).2.1, by rw [← e s _ hs (r5 i hi).2.1]; exact (r5 i hi).2.2⟩, r6, fun v hv hp => r7 v hv (by rw [e s v hs hv]; exact hp)⟩
  · rw [h.2 v hv]
    congr 1
    exact fb_sm_cong fun s hs => by rw [e s v hs hv]
/-- in the midst of the making of a set: its row holds e, the others stay -/
def JJ (q : Nat) (A0 : xM) (L0 : xL) (P : Nat → Nat → Nat) (fl : Nat → Nat → Nat) (nf : Nat → Nat) (set : Nat) (e : Nat → Nat) (A : xM) (L : xL) : Prop :=
  ∃ (P' : Nat → Nat → Nat) (fl' : Nat → Nat → Nat) (nf' : Nat → Nat), HV q A L P' fl' nf' ∧ HF q A0 L0 A L ∧ (∀ s, s ≠ set → nf' s = nf s ∧ ∀ i, fl' s i = fl s i) ∧ ∀ s u, u < 3001 → P' s u = if s = set then e u else P s u
def eU (e : Nat → Nat) (v c bd : Nat) : Nat → Nat := fun u => if u = v ∧ 1 ≤ v ∧ v ≤ bd ∧ v ≤ 3000 then e u + c else e u
theorem j_add {q : Nat} (hq : q < 2) {A0 A : xM} {L0 L : xL} {P : Nat → Nat → Nat} {fl : Nat → Nat → Nat} {nf : Nat → Nat} {set : Nat} {e : Nat → Nat} (hJ : JJ q A0 L0 P fl nf set e A L) {v c bd : Nat} (hs : set < 64 - 48 * q) (hvb : v < 2 ^ 31) (hc : 0 < c) (hbd : bd < 2 ^ 31) (hb : ∀ u, u < 3001 → e u + c < 2 ^ 60) {post : xM → xL → Prop}
    (h : ∀ (A' : xM) (L' : xL), JJ q A0 L0 P fl nf set (eU e v c bd) A' L' → post A' L') : v_X1_add q (nI set) (nI v) (lN c) (nI bd) A L post := by
  obtain ⟨P', fl', nf', h1, h2, h3, h4⟩ := hJ
  refine s_add hq h1 hs hvb hc hbd (fun u hu => by rw [h4 set u hu, if_pos rfl]; exact hb u hu) (fun A' L' P2 fl2 nf2 k1 k2 k3 k4 => h A' L' ⟨P2, fl2, nf2, k1, h2.tr k2, fun s hs2 => ⟨(k4 s hs2).1.trans (h3 s hs2).1, fun i => ((k4 s hs2).2 i).trans ((h3 s hs2).2 i)⟩, fun s u hu => ?_⟩)
  rw [k3]
  unfold eU
  by_cases c1 : 1 ≤ v ∧ v ≤ bd ∧ v ≤ 3000
  · rw [if_pos c1]
    unfold pU
    by_cases e1 : s = set
    · subst e1
      by_cases e2 : u = v
      · subst e2
        simp [c1, h4 s u hu]
      · simp [e2, h4 s u hu]
    · simp [e1, h4 s u hu]
  · rw [if_neg c1, h4 s u hu]
    by_cases e1 : s = set
    · simp only [e1, if_true]
      rw [if_neg (fun h => c1 h.2)]
    · simp [e1]
theorem n_abs {x y : Nat} (hx : x < 2 ^ 30) (hy : y < 2 ^ 30) : (if (0 : Int32) ≤ nI x - nI y then nI x - nI y else 0 - (nI x - nI y)) = nI (if y ≤ x then x - y else y - x) := by
  have h := pk_sub_toInt hx hy
  by_cases c : y ≤ x
  · have h1 : (0 : Int32) ≤ nI x - nI y := by
      rw [fa_le, h]
      show (0 : Int) ≤ _
      omega
    rw [if_pos h1, if_pos c, pk_sub c]
  · have h1 : ¬ (0 : Int32) ≤ nI x - nI y := by
      rw [fa_le, h]
      show ¬ (0 : Int) ≤ _
      omega
    rw [if_neg h1, if_neg c, ← pk_sub (show x ≤ y by omega)]
    rw [Int32.zero_sub, Int32.neg_sub]
/-- whether an act is told, as an int -/
def aI (ac k : Nat) : Int32 := if ac.testBit k = true then 1 else 0
theorem s_allow {A : xM} {L : xL} {ac k : Nat} (hac : A 1 0 = nI ac) (hk : k < 4) {post : Int32 → Prop} (h : post (aI ac k)) : v_X3_allow (nI k) A L post := by
  unfold v_X3_allow
  rw [hac]
  have e : (1 : Int32) <<< (nI k &&& 31) = nI (2 ^ k) := by
    rcases (show k = 0 ∨ k = 1 ∨ k = 2 ∨ k = 3 by omega) with rfl | rfl | rfl | rfl <;> decide
  rw [e]
  have hb := fa_bit (n := ac) (j := k) (by omega)
  refine ⟨fun c => ?_, fun c => ?_⟩
  · have := hb.mp c
    unfold aI at h
    rw [this] at h
    exact h
  · have : ac.testBit k = true := by
      cases hh : ac.testBit k
      · exact absurd (hb.mpr hh) c
      · rfl
    unfold aI at h
    rw [this] at h
    exact h
theorem aI_0 {ac k : Nat} : (aI ac k = 0 → ac.testBit k = false) ∧ (¬ aI ac k = 0 → ac.testBit k = true) := by
  unfold aI
  cases ac.testBit k <;> simp
/-- one pair's share -/
def wg (ac mo x y v : Nat) : Nat := if v ≤ mo then wc ac true x y v + wc ac false y x v else 0
theorem JJ.a11 {q : Nat} (hq : q < 2) {A0 A : xM} {L0 L : xL} {P : Nat → Nat → Nat} {fl : Nat → Nat → Nat} {nf : Nat → Nat} {set : Nat} {e : Nat → Nat} (hJ : JJ q A0 L0 P fl nf set e A L) : A 1 1 = A0 1 1 := by
  obtain ⟨P', fl', nf', h1, h2, h3, h4⟩ := hJ
  exact h2.1 1 1 (by omega) (by omega) (by omega)
theorem JJ.cong {q : Nat} {A0 A : xM} {L0 L : xL} {P : Nat → Nat → Nat} {fl : Nat → Nat → Nat} {nf : Nat → Nat} {set : Nat} {e e2 : Nat → Nat} (hJ : JJ q A0 L0 P fl nf set e A L) (h : ∀ u, u < 3001 → e u = e2 u) : JJ q A0 L0 P fl nf set e2 A L := by
  obtain ⟨P', fl', nf', h1, h2, h3, h4⟩ := hJ
  exact ⟨P', fl', nf', h1, h2, h3, fun s u hu => by rw [h4 s u hu, h u hu]⟩
def eI (b : Bool) (e : Nat → Nat) (v c mo : Nat) : Nat → Nat := if b = true then eU e v c mo else e
theorem eI_le {b : Bool} {e : Nat → Nat} {v c mo u : Nat} : eI b e v c mo u ≤ e u + c := by
  unfold eI eU
  split
  · dsimp only
    split <;> omega
  · omega
section JP
variable {q : Nat} {A0 A : xM} {L0 L : xL} {P : Nat → Nat → Nat} {fl : Nat → Nat → Nat} {nf : Nat → Nat} {set : Nat} {e : Nat → Nat} {c mo : Nat}
theorem j_if (hq : q < 2) (hs : set < 64 - 48 * q) (hmo : A0 1 1 = nI mo) (hm : mo ≤ 3000) (hc : 0 < c) {ac k : Nat} {v : Nat} (hvb : v < 2 ^ 31) (hJ : JJ q A0 L0 P fl nf set e A L) (hb : ∀ u, u < 3001 → e u + c < 2 ^ 60) {R : xM → xL → Prop} (h : ∀ A' L', JJ q A0 L0 P fl nf set (eI (ac.testBit k) e v c mo) A' L' → R A' L') :
    (aI ac k = 0 → R A L) ∧ (¬ aI ac k = 0 → v_X1_add q (nI set) (nI v) (lN c) (A 1 1) A L (fun A' L' => R A' L')) := by
  refine ⟨fun c1 => ?_, fun c1 => ?_⟩
  · have hb := aI_0.1 c1
    refine h A L ?_
    unfold eI
    rw [hb]
    exact hJ
  · have hb2 := aI_0.2 c1
    rw [hJ.a11 hq, hmo]
    refine j_add hq hJ hs hvb hc (by omega) hb (fun A' L' k => h A' L' ?_)
    unfold eI
    rw [hb2]
    exact k
theorem j_over (hq : q < 2) (hs : set < 64 - 48 * q) (hmo : A0 1 1 = nI mo) (hm : mo ≤ 3000) (hc : 0 < c) {ac : Nat} {x y : Nat} (hx : x < 3001) (hy : 1 ≤ y) (hy2 : y < 3001) (hJ : JJ q A0 L0 P fl nf set e A L) (hb : ∀ u, u < 3001 → e u + c < 2 ^ 60) {R : xM → xL → Prop} (h : ∀ A' L', JJ q A0 L0 P fl nf set (eI (ac.testBit 3 && decide (x % y = 0)) e (x / y) c mo) A' L' → R A' L') :
    (aI ac 3 = 0 → R A L) ∧ (¬ aI ac 3 = 0 → ((nI y ≤ 0 → R A L) ∧ (¬ nI y ≤ 0 → (¬ nI y = 0 ∧ ((¬ (nI x - nI x / nI y * nI y) = 0 → R A L) ∧ ((nI x - nI x / nI y * nI y) = 0 → (¬ nI y = 0 ∧ (v_X1_add q (nI set) (nI x / nI y) (lN c) (A 1 1) A L (fun A' L' => R A' L'))))))))) := by
  refine ⟨fun c1 => ?_, fun c1 => ?_⟩
  · have hb := aI_0.1 c1
    refine h A L ?_
    unfold eI
    rw [hb]
    exact hJ
  · have hb2 := aI_0.2 c1
    have hn : ¬ nI y = 0 := nI_ne0 (by omega) (by omega)
    refine pk_le y 0 (fun c2 => absurd c2 (by omega)) (fun _ => ⟨hn, ?_⟩)
    rw [pk_rem (by omega) (by omega) (by omega), pk_div (by omega) (by omega) (by omega)]
    have hlt := Nat.mod_lt x (show 0 < y by omega)
    have hdl := Nat.div_le_self x y
    refine ⟨fun c3 => ?_, fun c3 => ⟨hn, ?_⟩⟩
    · have : x % y ≠ 0 := fun e2 => c3 (by rw [e2]; rfl)
      refine h A L ?_
      unfold eI
      rw [decide_eq_false this, Bool.and_false]
      exact hJ
    · have : x % y = 0 := (nI_eq (a := x % y) (b := 0) (by omega) (by omega)).mp c3
      rw [hJ.a11 hq, hmo]
      refine j_add hq hJ hs (by omega) hc (by omega) hb (fun A' L' k => h A' L' ?_)
      unfold eI
      rw [hb2, decide_eq_true this]
      exact k
end JP
theorem wg_eq {ac mo x y : Nat} (hx : 1 ≤ x) (hy : 1 ≤ y) (hm : mo ≤ 3000) (e : Nat → Nat) (c u : Nat) : eI (ac.testBit 3 && decide (y % x = 0)) (eI (ac.testBit 3 && decide (x % y = 0)) (eI (ac.testBit 2) (eI (ac.testBit 1) (eI (ac.testBit 0) e (x + y) c mo) (if y ≤ x then x - y else y - x) c mo) (x * y) c mo) (x / y) c mo) (y / x) c mo u = e u + c * wg ac mo x y u := by
  have hxy : 1 ≤ x * y := Nat.mul_pos hx hy
  have d1 : x % y = 0 → 1 ≤ x / y := fun h => Nat.div_pos (Nat.le_of_dvd hx (Nat.dvd_of_mod_eq_zero h)) hy
  have d2 : y % x = 0 → 1 ≤ y / x := fun h => Nat.div_pos (Nat.le_of_dvd hy (Nat.dvd_of_mod_eq_zero h)) hx
  have s1 : ∀ (b : Bool) (f : Nat → Nat) (v : Nat), (b = true → 1 ≤ v) → eI b f v c mo u = f u + c * (if b = true ∧ u = v ∧ u ≤ mo then 1 else 0) := by
    intro b f v h1
    unfold eI eU
    cases b
    · simp
    · have := h1 rfl
      simp only [true_and, if_true]
      by_cases e1 : u = v
      · subst e1
        by_cases e2 : u ≤ mo
        · rw [if_pos ⟨rfl, this, e2, by omega⟩, if_pos ⟨rfl, e2⟩]; omega
        · rw [if_neg (fun h => e2 h.2.2.1), if_neg (fun h => e2 h.2)]; omega
      · rw [if_neg (fun h => e1 h.1), if_neg (fun h => e1 h.1)]; omega
  have s2 : ∀ (b : Bool) (f : Nat → Nat) (d : Nat), eI b f d c mo u = f u + c * (if b = true ∧ u = d ∧ 1 ≤ u ∧ u ≤ mo then 1 else 0) := by
    intro b f d
    unfold eI eU
    cases b
    · simp
    · simp only [true_and, if_true]
      by_cases e1 : u = d
      · subst e1
        by_cases e2 : 1 ≤ u ∧ u ≤ mo
        · rw [if_pos ⟨rfl, e2.1, e2.2, by omega⟩, if_pos ⟨rfl, e2⟩]; omega
        · rw [if_neg (fun h => e2 ⟨h.2.1, h.2.2.1⟩), if_neg (fun h => e2 h.2)]; omega
      · rw [if_neg (fun h => e1 h.1), if_neg (fun h => e1 h.1)]; omega
  rw [s1 _ _ (y / x) (fun h => d2 (by simp at h; exact h.2)), s1 _ _ (x / y) (fun h => d1 (by simp at h; exact h.2)), s1 _ _ (x * y) (fun _ => hxy), s2 _ _ (if y ≤ x then x - y else y - x), s1 _ _ (x + y) (fun _ => by omega)]
  unfold wg wc
  by_cases hu : u ≤ mo
  · simp only [hu, and_true, if_true]
    have a1 : (if ac.testBit 0 = true ∧ u = x + y then 1 else 0) = (if true = true ∧ ac.testBit 0 = true ∧ x + y = u then 1 else 0) := by
      congr 1
      exact propext ⟨fun h => ⟨rfl, h.1, h.2.symm⟩, fun h => ⟨h.2.1, h.2.2.symm⟩⟩
    have a2 : (if ac.testBit 1 = true ∧ u = (if y ≤ x then x - y else y - x) ∧ 1 ≤ u then 1 else 0) = (if ac.testBit 1 = true ∧ y < x ∧ x - y = u then 1 else 0) + (if ac.testBit 1 = true ∧ x < y ∧ y - x = u then 1 else 0) := by
      cases ac.testBit 1
      · simp
      · simp only [true_and]
        by_cases h1 : y < x
        · rw [if_pos (show y ≤ x by omega)]
          have : ¬ (x < y ∧ y - x = u) := by omega
          rw [if_neg this, Nat.add_zero]
          congr 1
          exact propext ⟨fun h => ⟨h1, h.1.symm⟩, fun h => ⟨h.2.symm, by omega⟩⟩
        · by_cases h2 : x < y
          · rw [if_neg (show ¬ y ≤ x by omega)]
            have : ¬ (y < x ∧ x - y = u) := by omega
            rw [if_neg this, Nat.zero_add]
            congr 1
            exact propext ⟨fun h => ⟨h2, h.1.symm⟩, fun h => ⟨h.2.symm, by omega⟩⟩
          · rw [if_pos (show y ≤ x by omega), if_neg (by omega), if_neg (by omega), if_neg (by omega)]
    have a3 : (if ac.testBit 2 = true ∧ u = x * y then 1 else 0) = (if true = true ∧ ac.testBit 2 = true ∧ x * y = u then 1 else 0) := by
      congr 1
      exact propext ⟨fun h => ⟨rfl, h.1, h.2.symm⟩, fun h => ⟨h.2.1, h.2.2.symm⟩⟩
    have a4 : ∀ z w : Nat, (if (ac.testBit 3 && decide (z % w = 0)) = true ∧ u = z / w then 1 else 0) = (if ac.testBit 3 = true ∧ z % w = 0 ∧ z / w = u then 1 else 0) := fun z w => by
      congr 1
      simp only [Bool.and_eq_true, decide_eq_true_eq]
      exact propext ⟨fun h => ⟨h.1.1, h.1.2, h.2.symm⟩, fun h => ⟨⟨h.1, h.2.1⟩, h.2.2.symm⟩⟩
    rw [a1, a2, a3, a4 x y, a4 y x]
    simp only [Bool.false_eq_true, false_and, if_false]
    simp only [Nat.mul_add]
    omega
  · simp [hu]
