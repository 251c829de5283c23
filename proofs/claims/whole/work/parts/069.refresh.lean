/-! the state of a heap between calls -/
theorem wS_cong2 {ac mo : Nat} {c c' : Nat → Nat → Nat} {set v : Nat} (hs : set < 64) (h : ∀ l, l < set → wpB set l = true → ∀ x, x < 3001 → c l x = c' l x) : wS ac mo c set v = wS ac mo c' set v := by
  unfold wS
  split
  · refine fb_sm_cong fun left hl => ?_
    split
    · rename_i hp
      have h1 := wpB_lt hp
      have hf := w_fin set hs left (by omega) hp
      have h2 := wpB_lt hf.1
      refine fb_sm_cong fun x hx => fb_sm_cong fun y hy => ?_
      rw [h left hl hp x hx, h _ h2.2 hf.1 y hy]
    · rfl
  · rfl
theorem wpB_bit {set l k : Nat} (h : wpB set l = true) (hb : l.testBit k = true) : set.testBit k = true := by
  simp only [wpB, Bool.and_eq_true, decide_eq_true_eq] at h
  have e := congrArg (fun x => x.testBit k) h.2
  simp only [Nat.testBit_and, hb, Bool.true_and] at e
  exact e
theorem wW_items {ac mo : Nat} {it it' : Nat → Nat} : ∀ (N set v : Nat), set < N → set < 64 → (∀ k, set.testBit k = true → it k = it' k) → wW ac mo it set v = wW ac mo it' set v := by
  intro N
  induction N with
  | zero => intro set v h; omega
  | succ N ih =>
    intro set v hN h64 hb
    rw [wW_eq h64, wW_eq h64]
    have w5 := w_fin5 set h64
    by_cases c : wb set < 6
    · have e := w5.2.1 c
      have h9 : (2 ^ wb set).testBit (wb set) = true := by simp
      rw [← e] at h9
      rw [hb _ h9]
      simp only [c, if_true]
    · simp only [c, if_false]
      rw [wS_cong2 h64 fun l hl hp x _ => ih l x (by omega) (by omega) (fun k hk => hb k (wpB_bit hp hk))]
def wR (n ac mo : Nat) (it : Nat → Nat) (s u : Nat) : Nat := if s < 2 ^ n then wW ac mo it s u else 0
theorem wR_le {n ac mo : Nat} {it : Nat → Nat} {s u : Nat} (h : n ≤ 6) : wR n ac mo it s u ≤ 30965760 := by
  unfold wR
  split
  · rename_i c
    exact wW_le (Nat.lt_of_lt_of_le c (show 2 ^ n ≤ 2 ^ 6 from Nat.pow_le_pow_right (by decide) h))
  · omega
theorem wW_0 {ac mo : Nat} {it : Nat → Nat} {u : Nat} : wW ac mo it 0 u = 0 := by rw [wW_eq (by decide), if_pos (Or.inl rfl)]
theorem wR_0 {n ac mo : Nat} {it : Nat → Nat} {u : Nat} : wR n ac mo it 0 u = 0 := by
  unfold wR
  rw [wW_0]
  split <;> rfl
def hT (q k : Nat) : Prop := k = 2 + 6 * q ∨ k = 3 + 6 * q ∨ k = 6 + 6 * q ∨ k = 7 + 6 * q ∨ (100 + 80 * q ≤ k ∧ k < 100 + 80 * q + (64 - 48 * q))
def hL (q k : Nat) : Prop := 36 + 128 * q ≤ k ∧ k < 36 + 128 * q + (64 - 48 * q)
def HG (q : Nat) (A : xM) (L : xL) (A' : xM) (L' : xL) : Prop := (∀ k j, ¬ hT q k → A' k j = A k j) ∧ ∀ k j, ¬ hL q k → L' k j = L k j
theorem HG.rf {q : Nat} {A : xM} {L : xL} : HG q A L A L := ⟨fun _ _ _ => rfl, fun _ _ _ => rfl⟩
theorem HG.tr {q : Nat} {A A1 A2 : xM} {L L1 L2 : xL} (h : HG q A L A1 L1) (h2 : HG q A1 L1 A2 L2) : HG q A L A2 L2 :=
  ⟨fun k j a => (h2.1 k j a).trans (h.1 k j a), fun k j a => (h2.2 k j a).trans (h.2 k j a)⟩
theorem HF.g {q : Nat} {A A1 : xM} {L L1 : xL} (h : HF q A L A1 L1) : HG q A L A1 L1 :=
  ⟨fun k j a => h.1 k j (fun e => a (by unfold hT; omega)) (fun e => a (by unfold hT; omega)) (fun e => a (by unfold hT; omega)), fun k j a => h.2 k j a⟩
def HI (q : Nat) (A : xM) (L : xL) (n ac mo : Nat) (it : Nat → Nat) (ch : Nat) : Prop :=
  n ≤ 6 - 2 * q ∧ A (2 + 6 * q) 6 = nI n ∧ A (2 + 6 * q) 7 = nI ch ∧ ch < 64 - 48 * q ∧ (∀ k, k < n → A (3 + 6 * q) k = nI (it k) ∧ 1 ≤ it k ∧ it k ≤ 100) ∧
  ∃ (P : Nat → Nat → Nat) (fl : Nat → Nat → Nat) (nf : Nat → Nat), HV q A L P fl nf ∧ ∀ s u, s < 64 - 48 * q → u < 3001 → s &&& ch = 0 → P s u = wR n ac mo it s u
theorem HV.mem {q : Nat} {A A' : xM} {L L' : xL} {P : Nat → Nat → Nat} {fl : Nat → Nat → Nat} {nf : Nat → Nat} (h : HV q A L P fl nf) (hA : ∀ k j, (k = 6 + 6 * q ∨ k = 7 + 6 * q ∨ (100 + 80 * q ≤ k ∧ k < 100 + 80 * q + (64 - 48 * q))) → A' k j = A k j) (hL9 : ∀ k j, hL q k → L' k j = L k j) : HV q A' L' P fl nf := by
  refine ⟨fun s hs => ?_, fun v hv => by rw [hA _ _ (by omega)]; exact h.2 v hv⟩
  obtain ⟨r1, r2, r3, r4, r5, r6, r7⟩ := h.1 s hs
  exact ⟨fun v hv => by rw [hL9 _ _ (by unfold hL; omega)]; exact r1 v hv, r2, r3, by rw [hA _ _ (by omega)]; exact r4, fun i hi => ⟨by rw [hA _ _ (by omega)]; exact (r5 i hi).1, (r5 i hi).2⟩, r6, r7⟩
theorem HI.mem {q : Nat} {A A' : xM} {L L' : xL} {n ac mo : Nat} {it : Nat → Nat} {ch : Nat} (h : HI q A L n ac mo it ch) (hA : ∀ k j, hT q k → A' k j = A k j) (hL9 : ∀ k j, hL q k → L' k j = L k j) : HI q A' L' n ac mo it ch := by
  obtain ⟨h1, h2, h3, h4, h5, P, fl, nf, h6, h7⟩ := h
  exact ⟨h1, by rw [hA _ _ (by unfold hT; omega)]; exact h2, by rw [hA _ _ (by unfold hT; omega)]; exact h3, h4, fun k hk => by rw [hA _ _ (by unfold hT; omega)]; exact h5 k hk, P, fl, nf, h6.mem (fun k j hk => hA k j (by unfold hT; omega)) hL9, h7⟩
/-- an open heap: nothing is to be made anew -/
theorem HI.hv {q : Nat} {A : xM} {L : xL} {n ac mo : Nat} {it : Nat → Nat} (h : HI q A L n ac mo it 0) : ∃ (fl : Nat → Nat → Nat) (nf : Nat → Nat), HV q A L (wR n ac mo it) fl nf := by
  obtain ⟨h1, h2, h3, h4, h5, P, fl, nf, h6, h7⟩ := h
  exact ⟨fl, nf, h6.cong fun s u hs hu => h7 s u hs hu (Nat.and_zero s)⟩
theorem s_knows {q n : Nat} {A : xM} {L : xL} (hq : q < 2) (h1 : n ≤ 6) (h2 : A (2 + 6 * q) 6 = nI n) {x : Int32} {post : Int32 → Prop} (h : post (if ¬ x < 0 ∧ ¬ nI (2 ^ n) ≤ x then 1 else 0)) : v_X1_knows q x A L post := by
  unfold v_X1_knows
  rw [h2, w_shl n (by omega)]
  refine ⟨fun c => ?_, fun c => ⟨fun c2 => ?_, fun c2 => ?_⟩⟩
  · rw [if_neg (fun q => q.1 c)] at h; exact h
  · rw [if_neg (fun q => q.2 c2)] at h; exact h
  · rw [if_pos ⟨c, c2⟩] at h; exact h
theorem s_refresh {q : Nat} (hq : q < 2) {A : xM} {L : xL} {n ac mo : Nat} {it : Nat → Nat} {ch : Nat} (H : HI q A L n ac mo it ch) (hac : A 1 0 = nI ac) (hmo : A 1 1 = nI mo) (hm : mo ≤ 3000) {post : xM → xL → Prop}
    (h : ∀ (A' : xM) (L' : xL), HI q A' L' n ac mo it 0 → HG q A L A' L' → post A' L') : v_X1_refresh q A L post := by
  obtain ⟨h1, h2, h3, h4, h5, P, fl, nf, h6, h7⟩ := id H
  have hn6 : 2 ^ n ≤ 64 - 48 * q := by
    rcases (show q = 0 ∨ q = 1 by omega) with rfl | rfl
    · exact Nat.le_trans (Nat.pow_le_pow_right (by decide) h1) (by decide)
    · exact Nat.le_trans (Nat.pow_le_pow_right (by decide) h1) (by decide)
  unfold v_X1_refresh
  rw [h3]
  refine ⟨fun _ => ?_, fun c => ?_⟩
  · refine pk_loop (σ := xM × xL) (fun k i s => v_X1_refresh_10 q post k (nI i) s.1 s.2)
      (fun i s => 1 ≤ i ∧ ∃ (P : Nat → Nat → Nat) (fl : Nat → Nat → Nat) (nf : Nat → Nat), HV q s.1 s.2 P fl nf ∧ HF q A L s.1 s.2 ∧ ∀ t u, t < 64 - 48 * q → u < 3001 → (t < i ∨ t &&& ch = 0) → P t u = wR n ac mo it t u) (64 - 48 * q) 1 (A, L) (by omega)
      ⟨Nat.le_refl _, P, fl, nf, h6, HF.rf, fun t u ht hu hc => ?_⟩ (fun k s hI => ?_) (fun k i s hi hI kk => ?_)
    · rcases hc with hc | hc
      · have : t = 0 := by omega
        subst this
        exact h7 0 u ht hu (Nat.zero_and _)
      · exact h7 t u ht hu hc
    · obtain ⟨-, P2, fl2, nf2, i1, i2, i3⟩ := hI
      unfold v_X1_refresh_10
      refine pk_le (64 - 48 * q) (64 - 48 * q) (fun _ A2 eA2 => ?_) (fun c => absurd c (by omega))
      subst eA2
      have fr : ∀ k j, ¬ (k = 2 + 6 * q ∧ j = 7) → xu s.1 (2 + 6 * q) 7 0 k j = s.1 k j := fun k j hk => by unfold xu; rw [if_neg hk]
      refine h _ _ ⟨h1, ?_, by simp [xu, nI_0], by omega, fun k hk => ?_, P2, fl2, nf2, i1.mem (fun k j hk => fr k j (by omega)) (fun _ _ _ => rfl), fun t u ht hu _ => i3 t u ht hu (Or.inl ht)⟩ ?_
      · rw [fr _ _ (by omega), i2.1 _ _ (by omega) (by omega) (by omega)]; exact h2
      · rw [fr _ _ (by omega), i2.1 _ _ (by omega) (by omega) (by omega)]; exact h5 k hk
      · exact i2.g.tr ⟨fun k j hk => fr k j (fun e => hk (by unfold hT; omega)), fun _ _ _ => rfl⟩
    · obtain ⟨hi1, P2, fl2, nf2, i1, i2, i3⟩ := hI
      unfold v_X1_refresh_10
      refine pk_le (64 - 48 * q) i (fun c => absurd c (by omega)) (fun _ => ?_)
      rw [i2.1 _ _ (by omega) (by omega) (by omega), h3, fa_and]
      have hand : i &&& ch ≤ i := Nat.and_le_left
      have nxt : ∀ x3 : Int32, x3 = nI i + 1 → x3 = nI (i + 1) := fun x3 ex => by rw [ex]; exact nI_1 i
      refine ⟨fun c x4 ex4 => ?_, fun c => ?_⟩
      · rw [nxt x4 ex4]
        have c : i &&& ch = 0 := (nI_eq (a := i &&& ch) (b := 0) (by omega) (by omega)).mp c
        refine kk s ⟨by omega, P2, fl2, nf2, i1, i2, fun t u ht hu hc => i3 t u ht hu ?_⟩
        by_cases e : t = i
        · subst e; exact Or.inr c
        · omega
      · refine s_forget hq i1 hi (fun A5 L5 f1 f2 => ?_)
        have hG := i2.tr f2
        have a6 : A5 (2 + 6 * q) 6 = nI n := by rw [hG.1 _ _ (by omega) (by omega) (by omega)]; exact h2
        refine s_knows hq (by omega) a6 ?_
        have hlt31 : 2 ^ n < 2 ^ 31 := by omega
        by_cases c2 : i < 2 ^ n
        · rw [if_pos ⟨nI_pos (by omega), nI_ge c2 hlt31⟩]
          refine ⟨fun c3 => absurd c3 (by decide), fun _ => ?_⟩
          refine s_make hq f1 hi hi1 (by rw [hG.1 _ _ (by omega) (by omega) (by omega)]; exact hac) (by rw [hG.1 _ _ (by omega) (by omega) (by omega)]; exact hmo) hm (it := it) (fun u _ => by simp [rU]) (fun k hk => ?_) (fun l hl u hu => ?_) (fun A' L' J x9 ex9 => ?_)
          · have hkn : k < n := by
              refine Nat.lt_of_not_le fun hnk => ?_
              have : i < 2 ^ k := Nat.lt_of_lt_of_le c2 (Nat.pow_le_pow_right (by decide) hnk)
              rw [Nat.testBit_lt_two_pow this] at hk
              exact absurd hk (by decide)
            rw [hG.1 _ _ (by omega) (by omega) (by omega)]
            have := h5 k hkn
            exact ⟨this.1, this.2.1, by omega⟩
          · have hl2 := wpB_lt hl
            unfold rU
            rw [if_neg (by omega), i3 l u (by omega) hu (Or.inl hl2.2)]
            unfold wR
            rw [if_pos (by omega)]
          · obtain ⟨P3, fl3, nf3, k1, k2, k3, k4⟩ := J
            rw [nxt x9 ex9]
            refine kk (A', L') ⟨by omega, P3, fl3, nf3, k1, hG.tr k2, fun t u ht hu hc => ?_⟩
            rw [k4 t u hu]
            by_cases e : t = i
            · subst e; unfold wR; rw [if_pos rfl, if_pos c2]
            · rw [if_neg e]; unfold rU; rw [if_neg e]; exact i3 t u ht hu (by omega)
        · rw [if_neg (fun q => q.2 (nI_le (by omega) (by omega)))]
          refine ⟨fun _ x9 ex9 => ?_, fun c3 => absurd rfl c3⟩
          rw [nxt x9 ex9]
          refine kk (A5, L5) ⟨by omega, _, _, _, f1, hG, fun t u ht hu hc => ?_⟩
          unfold rU
          by_cases e : t = i
          · subst e; unfold wR; rw [if_pos rfl, if_neg c2]
          · rw [if_neg e]; exact i3 t u ht hu (by omega)
  · have c : ch = 0 := (nI_eq (a := ch) (b := 0) (by omega) (by omega)).mp c
    subst c
    exact h A L H HG.rf
