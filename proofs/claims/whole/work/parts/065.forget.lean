def rmv (p : Nat → Nat) (f : Nat → Nat) : Nat → Nat → Nat
  | 0 => p
  | i + 1 => fun v => if v = f i then 0 else rmv p f i v
theorem rmv_le {p f : Nat → Nat} : ∀ i v, rmv p f i v ≤ p v
  | 0, _ => Nat.le_refl _
  | i + 1, v => by
    show (if v = f i then 0 else rmv p f i v) ≤ p v
    split
    · exact Nat.zero_le _
    · exact rmv_le i v
theorem rmv_ne {p f : Nat → Nat} {v : Nat} : ∀ i, (∀ j, j < i → f j ≠ v) → rmv p f i v = p v
  | 0, _ => rfl
  | i + 1, h => by
    show (if v = f i then 0 else rmv p f i v) = p v
    rw [if_neg (fun e => h i (by omega) e.symm)]
    exact rmv_ne i fun j hj => h j (by omega)
theorem rmv_in {p f : Nat → Nat} {v : Nat} : ∀ i, (∃ j, j < i ∧ f j = v) → rmv p f i v = 0
  | 0, h => by obtain ⟨j, hj, _⟩ := h; omega
  | i + 1, h => by
    show (if v = f i then 0 else rmv p f i v) = 0
    split
    · rfl
    · rename_i e
      obtain ⟨j, hj, e2⟩ := h
      exact rmv_in i ⟨j, Nat.lt_of_le_of_ne (by omega) (fun e3 => e (by rw [← e3]; exact e2.symm)), e2⟩
/-- the counts, one row given anew -/
def rU (P : Nat → Nat → Nat) (set : Nat) (r : Nat → Nat) : Nat → Nat → Nat := fun s u => if s = set then r u else P s u
theorem s_forget {q : Nat} (hq : q < 2) {A : xM} {L : xL} {P : Nat → Nat → Nat} {fl : Nat → Nat → Nat} {nf : Nat → Nat} (hv : HV q A L P fl nf) {set : Nat} (hs : set < 64 - 48 * q) {post : xM → xL → Prop}
    (h : ∀ (A' : xM) (L' : xL), HV q A' L' (rU P set (fun _ => 0)) fl (nU nf set 0) → HF q A L A' L' → post A' L') : v_X1_forget q (nI set) A L post := by
  have e1 : (nI set).toNatClampNeg = set := nI_clamp (by omega)
  have hr := hv.1 set hs
  obtain ⟨r1, r2, r3, r4, r5, r6, r7⟩ := id hr
  have hnf := hr.nf_le
  unfold v_X1_forget
  refine pk_loop (σ := xM × xL) (fun n i s => v_X1_forget_2 q (nI set) post n (nI i) s.1 s.2)
    (fun i s => (∀ k j, k ≠ 7 + 6 * q → s.1 k j = A k j) ∧ (∀ k j, k ≠ 36 + 128 * q + set → s.2 k j = L k j) ∧ (∀ v, v < 3001 → s.2 (36 + 128 * q + set) v = lN (rmv (P set) (fl set) i v)) ∧ ∀ v, v < 3001 → s.1 (7 + 6 * q) v = nI (fb_sm (fun t => if 0 < rU P set (rmv (P set) (fl set) i) t v then 1 else 0) (64 - 48 * q)))
    (nf set) 0 (A, L) (Nat.zero_le _) ⟨fun _ _ _ => rfl, fun _ _ _ => rfl, r1, fun v hv9 => ?_⟩ (fun n s hI => ?_) (fun n i s hi hI k => ?_)
  · show A (7 + 6 * q) v = _
    rw [hv.2 v hv9]
    congr 1
    refine fb_sm_cong fun t _ => ?_
    unfold rU
    by_cases e : t = set
    · subst e; simp [rmv]
    · simp [e]
  · obtain ⟨i1, i2, i3, i4⟩ := hI
    unfold v_X1_forget_2
    refine ⟨pk_in set _ hs rfl (by omega), ?_⟩
    rw [e1, i1 _ _ (by omega), r4]
    refine pk_le (nf set) (nf set) (fun _ A3 eA3 => ?_) (fun c => absurd c (by omega))
    have hz : ∀ v, v < 3001 → rmv (P set) (fl set) (nf set) v = 0 := fun v hv9 => by
      by_cases hp : 0 < P set v
      · exact rmv_in _ (r7 v hv9 hp)
      · have := rmv_le (p := P set) (f := fl set) (nf set) v
        omega
    refine h A3 s.2 ⟨fun t ht => ?_, fun v hv9 => ?_⟩ ⟨fun k j h1 h2 h3 => ?_, fun k j h1 => i2 k j (by omega)⟩
    · by_cases e : t = set
      · subst e
        refine ⟨fun v hv9 => ?_, by simp [rU], fun v _ => by simp [rU], ?_, fun i hi => ?_, fun i j hi => ?_, fun v hv9 hp => ?_⟩
        · rw [i3 v hv9, hz v hv9]; simp [rU]
        · rw [eA3]; simp [xu, nU, nI_0]
        · simp [nU] at hi
        · simp [nU] at hi
        · simp [rU] at hp
      · obtain ⟨q1, q2, q3, q4, q5, q6, q7⟩ := hv.1 t ht
        have ep : ∀ u, rU P set (fun _ => 0) t u = P t u := fun u => by simp [rU, e]
        have en : nU nf set 0 t = nf t := by simp [nU, e]
        refine ⟨fun v hv9 => ?_, by rw [ep]; exact q2, fun v hv9 => by rw [ep]; exact q3 v hv9, ?_, fun i hi => ?_, fun i j hi hj => ?_, fun v hv9 hp => ?_⟩
        · rw [ep, i2 _ _ (by omega)]; exact q1 v hv9
        · rw [en, eA3]; unfold xu; rw [if_neg (by omega), i1 _ _ (by omega)]; exact q4
        · rw [en] at hi
          rw [ep, eA3]; unfold xu; rw [if_neg (by omega), i1 _ _ (by omega)]
          exact q5 i hi
        · rw [en] at hi hj
          exact q6 i j hi hj
        · rw [ep] at hp
          rw [en]
          exact q7 v hv9 hp
    · rw [eA3]; unfold xu; rw [if_neg (by omega), i4 v hv9]
      congr 1
      refine fb_sm_cong fun t _ => ?_
      unfold rU
      by_cases e : t = set
      · simp [e, hz v hv9]
      · simp [e]
    · rw [eA3]; unfold xu; rw [if_neg (by omega)]; exact i1 k j h2
  · obtain ⟨i1, i2, i3, i4⟩ := hI
    unfold v_X1_forget_2
    refine ⟨pk_in set _ hs rfl (by omega), ?_⟩
    rw [e1, i1 _ _ (by omega), r4]
    refine pk_le (nf set) i (fun c => absurd c (by omega)) (fun _ => ⟨pk_in i 3000 (by omega), fun x3 ex3 => ?_⟩)
    rw [nI_clamp (show i < 2 ^ 31 by omega), i1 _ _ (by omega), (r5 i hi).1] at ex3
    subst ex3
    have hf := (r5 i hi).2.1
    refine ⟨pk_in (fl set i) 3001 hf, fun L7 eL7 A8 eA8 x2 ex2 => ?_⟩
    rw [nI_clamp (show fl set i < 2 ^ 31 by omega)] at eL7 eA8
    have hrm : rmv (P set) (fl set) i (fl set i) = P set (fl set i) := rmv_ne i fun j hj e => by
      have := r6 j i (by omega) hi e
      omega
    have hx2 : x2 = nI (i + 1) := by rw [ex2]; exact nI_1 i
    subst hx2
    refine k (A8, L7) ⟨fun k j h1 => ?_, fun k j h1 => ?_, fun v hv9 => ?_, fun v hv9 => ?_⟩
    · show A8 k j = _
      rw [eA8]; unfold xu; rw [if_neg (by omega)]; exact i1 k j h1
    · show L7 k j = _
      rw [eL7]; unfold xul; rw [if_neg (by omega)]; exact i2 k j h1
    · show L7 _ v = lN (if v = fl set i then 0 else _)
      rw [eL7]; unfold xul
      by_cases e : v = fl set i
      · simp [e]; rfl
      · rw [if_neg (by omega), if_neg e]; exact i3 v hv9
    · show A8 _ v = _
      rw [eA8]; unfold xu
      by_cases e : v = fl set i
      · subst e
        rw [if_pos ⟨rfl, rfl⟩, i4 _ hv9]
        have h2 := fb_sm_upd (fun t => if 0 < rU P set (rmv (P set) (fl set) i) t (fl set i) then 1 else 0) 0 hs
        have h3 : (if 0 < rU P set (rmv (P set) (fl set) i) set (fl set i) then 1 else 0) = 1 := by
          have := (r5 i hi).2.2
          simp [rU, hrm, this]
        rw [h3] at h2
        have h4 : fb_sm (fun t => if t = set then 0 else if 0 < rU P set (rmv (P set) (fl set) i) t (fl set i) then 1 else 0) (64 - 48 * q) = fb_sm (fun t => if 0 < rU P set (rmv (P set) (fl set) (i + 1)) t (fl set i) then 1 else 0) (64 - 48 * q) := fb_sm_cong fun t _ => by
          unfold rU
          by_cases e : t = set
          · simp [e, rmv]
          · simp [e]
        rw [h4] at h2
        have h5 := h2.trans (Nat.add_zero _)
        rw [← h5]
        exact (nI_pred _)
      · rw [if_neg (by omega), i4 v hv9]
        congr 1
        refine fb_sm_cong fun t _ => ?_
        unfold rU
        by_cases e2 : t = set
        · subst e2
          simp only [if_true]
          show _ = if 0 < (if v = fl t i then 0 else rmv (P t) (fl t) i v) then 1 else 0
          rw [if_neg e]
        · simp [e2]
