/-! spans: the reference -/
theorem r_spans {A : xM} {L : xL} {n ac mo v : Nat} {it : Nat → Nat} (hn : n ≤ 6) (h9 : A 23 9 = nI n) (hac : A 23 2 = nI ac) (h16 : ac < 16) (hmo : A 23 3 = nI mo) (hm : mo ≤ 3000) (hit : ∀ k, k < n → A 27 k = nI (it k) ∧ 1 ≤ it k ∧ it k ≤ 100) (hv : v ≤ 100) {post : Int32 → xM → xL → Prop}
    (k : ∀ A' L', (∀ a b, a ≠ 29 → a ≠ 30 → ¬ (a = 23 ∧ b = 13) → A' a b = A a b) → A' 23 13 = 0 → (∀ a b, a ≠ 28 → L' a b = L a b) → post (bI (sB (rS n ac mo it) v)) A' L') : v_X6_spans (nI v) A L post := by
  unfold v_X6_spans
  refine r_fill hn h9 hac h16 hmo hm hit (fun A' L' g1 g2 g3 g4 => ?_)
  have K := k A' L' g1 g2 g3
  have RRr : RR (wR n ac mo it) n A' L' := g4.rr hn (by rw [g1 23 9 (by omega) (by omega) (by omega)]; exact h9)
  have a1 := fa_first_le (pM (rS n ac mo it)) 3001
  have a2 := fa_first_no (pM (rS n ac mo it)) 3001
  have a3 := fa_first_yes (pM (rS n ac mo it)) 3001
  have yes : (∀ w, 1 ≤ w → w < v + 1 → rS n ac mo it w = true) → sB (rS n ac mo it) v = true := fun h => by
    unfold sB
    refine decide_eq_true (Nat.lt_of_not_le fun c => ?_)
    have := a3 (by omega)
    generalize fa_first (pM (rS n ac mo it)) 3001 = z at c this
    unfold pM at this
    by_cases z0 : 1 ≤ z
    · rw [h z z0 (by omega)] at this
      simp at this
    · rw [decide_eq_false z0] at this
      simp at this
  have no : ∀ w, 1 ≤ w → w ≤ v → rS n ac mo it w = false → sB (rS n ac mo it) v = false := fun w h1 h2 h => by
    unfold sB
    refine decide_eq_false fun c => ?_
    have := a2 w (by omega)
    unfold pM at this
    rw [h, decide_eq_true h1] at this
    exact absurd this (by decide)
  have b01 : ∀ b : Bool, bI b = 0 ∨ bI b = 1 := fun b => by cases b <;> simp [bI]
  refine pk_loop (σ := Bool) (fun f i s => v_X6_spans_8 (nI v) post f (bI s) (nI i) A' L')
    (fun i s => 1 ≤ i ∧ ((s = true ∧ ∀ w, 1 ≤ w → w < i → rS n ac mo it w = true) ∨ (s = false ∧ 2 ≤ i ∧ rS n ac mo it (i - 1) = false))) (v + 1) 1 true (by omega) ⟨Nat.le_refl _, Or.inl ⟨rfl, fun w h1 h2 => by omega⟩⟩ (fun f s hI => ?_) (fun f i s hi hI kk => ?_)
  · unfold v_X6_spans_8
    refine pk_lt v (v + 1) (fun _ => ⟨b01 _, ?_⟩) (fun c => absurd c (by omega))
    rcases hI.2 with ⟨e, g⟩ | ⟨e, g1, g2⟩
    · rw [yes g] at K; rw [e]; exact K
    · rw [no v (by omega) (Nat.le_refl _) g2] at K; rw [e]; exact K
  · unfold v_X6_spans_8
    obtain ⟨hi1, hI⟩ := hI
    refine pk_lt v i (fun c => absurd c (by omega)) (fun _ => ?_)
    rcases hI with ⟨e, g⟩ | ⟨e, g1, g2⟩
    · subst e
      refine ⟨fun c => absurd c (by decide), fun _ => r_reach RRr hi1 (by omega) (fun x3 e3 => ?_)⟩
      have : x3 = nI (i + 1) := by rw [e3]; exact nI_1 i
      subst this
      refine kk (rS n ac mo it i) ⟨by omega, ?_⟩
      cases hr : rS n ac mo it i
      · exact Or.inr ⟨rfl, by omega, hr⟩
      · refine Or.inl ⟨rfl, fun w h1 h2 => ?_⟩
        by_cases e : w = i
        · rw [e]; exact hr
        · exact g w h1 (by omega)
    · subst e
      refine ⟨fun _ => ⟨b01 _, ?_⟩, fun c => absurd rfl c⟩
      rw [no (i - 1) (by omega) (by omega) g2] at K
      exact K
/-- where the sets that are left begin -/
def t1 (a : Nat) : Nat := 2 ^ (13 - a)
def t2 (n a b : Nat) : Nat := if n = 1 then (if b ≤ 12 then 2 ^ (13 - a) else 2 ^ (12 - a)) else 2 ^ (12 - a) + 2 ^ (13 - b)
def t3 (n a b c : Nat) : Nat := if n = 1 then (if c ≤ 12 then 2 ^ (13 - a) else 2 ^ (12 - a)) else if n = 2 then (if c ≤ 12 then 2 ^ (12 - a) + 2 ^ (13 - b) else 2 ^ (12 - a) + 2 ^ (12 - b)) else 2 ^ (12 - a) + 2 ^ (12 - b) + 2 ^ (13 - c)
def b0 (n a : Nat) : Nat := if n ≤ 1 then 12 else a + 1
def c0 (n b : Nat) : Nat := if n ≤ 2 then 12 else b + 1
def vld (n a b c : Nat) : Bool := decide (1 ≤ a) && (if n = 1 then decide (b = 12) else decide (a < b)) && (if n ≤ 2 then decide (c = 12) else decide (b < c))
def al : Nat → (Nat → Bool) → Bool
  | 0, _ => true
  | n + 1, p => al n p && p n
theorem al_of {p : Nat → Bool} : ∀ {n : Nat}, al n p = true → ∀ k, k < n → p k = true
  | 0, _, k, hk => by omega
  | n + 1, h, k, hk => by
    have h : (al n p && p n) = true := h
    rw [Bool.and_eq_true] at h
    by_cases e : k = n
    · rw [e]; exact h.2
    · exact al_of h.1 k (by omega)
def ck5 (n a b c : Nat) : Bool := decide (n = 0) || (!vld n a b c || (decide (pb (t3 n a b (c + 1)) = n) && (decide (t3 n a b (c + 1) < 4096) && (decide (1 ≤ t3 n a b (c + 1)) && (decide (t3 n a b (c + 1) ≤ t3 n a b c) && (al (t3 n a b c - t3 n a b (c + 1)) (fun r => decide (r = 0) || !decide (pb (t3 n a b (c + 1) + r) = n)) && (decide ((sL (t3 n a b (c + 1)) 12).2 0 = a) && ((decide (n ≤ 1) || decide ((sL (t3 n a b (c + 1)) 12).2 1 = b)) && (decide (n ≤ 2) || decide ((sL (t3 n a b (c + 1)) 12).2 2 = c))))))))))
theorem ck5_all : al 4 (fun n => al 13 fun a => al 13 fun b => al 13 fun c => ck5 n a b c) = true := by decide +kernel
theorem f5 {n a b c : Nat} (hn : n < 4) (ha : a < 13) (hb : b < 13) (hc : c < 13) (h1 : 1 ≤ n) (hv : vld n a b c = true) : (pb (t3 n a b (c + 1)) = n ∧ t3 n a b (c + 1) < 4096 ∧ 1 ≤ t3 n a b (c + 1) ∧ t3 n a b (c + 1) ≤ t3 n a b c) ∧ (∀ r, r < t3 n a b c - t3 n a b (c + 1) → pb (t3 n a b (c + 1) + r) = n → r = 0) ∧ (sL (t3 n a b (c + 1)) 12).2 0 = a ∧ (1 < n → (sL (t3 n a b (c + 1)) 12).2 1 = b) ∧ (2 < n → (sL (t3 n a b (c + 1)) 12).2 2 = c) := by
  have h := al_of (al_of (al_of (al_of ck5_all n hn) a ha) b hb) c hc
  unfold ck5 at h
  rw [decide_eq_false (show ¬ n = 0 by omega), hv] at h
  simp only [Bool.false_or, Bool.not_true, Bool.and_eq_true, Bool.or_eq_true, decide_eq_true_eq] at h
  obtain ⟨q1, q2, q3, q4, q5, q6, q7, q8⟩ := h
  refine ⟨⟨q1, q2, q3, q4⟩, fun r hr hp => ?_, q6, fun _ => by rcases q7 with e | e <;> omega, fun _ => by rcases q8 with e | e <;> omega⟩
  have := al_of q5 r hr
  simp only [hp, decide_true, Bool.not_true, Bool.or_false, decide_eq_true_eq] at this
  exact this
def ck4 (n a b : Nat) : Bool := decide (n = 0) || (decide (a = 0) || (!(if n = 1 then decide (b = 12) else decide (a < b)) || (decide (t2 n a (b + 1) ≤ t3 n a b 13) && (decide (t3 n a b (c0 n b) = t2 n a b) && (decide (t3 n a b 13 < 4096) && al (t3 n a b 13 - t2 n a (b + 1)) (fun r => !decide (pb (t2 n a (b + 1) + r) = n)))))))
theorem ck4_all : al 4 (fun n => al 13 fun a => al 13 fun b => ck4 n a b) = true := by decide +kernel
theorem f4 {n a b : Nat} (hn : n < 4) (ha : a < 13) (hb : b < 13) (h1 : 1 ≤ n) (h2 : 1 ≤ a) (h3 : if n = 1 then b = 12 else a < b) : t2 n a (b + 1) ≤ t3 n a b 13 ∧ t3 n a b (c0 n b) = t2 n a b ∧ t3 n a b 13 < 4096 ∧ ∀ r, r < t3 n a b 13 - t2 n a (b + 1) → pb (t2 n a (b + 1) + r) ≠ n := by
  have h := al_of (al_of (al_of ck4_all n hn) a ha) b hb
  unfold ck4 at h
  have hv : (if n = 1 then decide (b = 12) else decide (a < b)) = true := by
    split
    · rename_i e; rw [if_pos e] at h3; exact decide_eq_true h3
    · rename_i e; rw [if_neg e] at h3; exact decide_eq_true h3
  rw [decide_eq_false (show ¬ n = 0 by omega), decide_eq_false (show ¬ a = 0 by omega), hv] at h
  simp only [Bool.false_or, Bool.not_true, Bool.and_eq_true, decide_eq_true_eq] at h
  obtain ⟨q1, q2, q3, q4⟩ := h
  refine ⟨q1, q2, q3, fun r hr hp => ?_⟩
  have := al_of q4 r hr
  simp [hp] at this
def ck3 (n a : Nat) : Bool := decide (n = 0) || (decide (a = 0) || (decide (t1 (a + 1) ≤ t2 n a 13) && (decide (t2 n a (b0 n a) = t1 a) && (decide (t2 n a 13 < 4096) && al (t2 n a 13 - t1 (a + 1)) (fun r => !decide (pb (t1 (a + 1) + r) = n))))))
theorem ck3_all : al 4 (fun n => al 13 fun a => ck3 n a) = true := by decide +kernel
theorem f3 {n a : Nat} (hn : n < 4) (ha : a < 13) (h1 : 1 ≤ n) (h2 : 1 ≤ a) : t1 (a + 1) ≤ t2 n a 13 ∧ t2 n a (b0 n a) = t1 a ∧ t2 n a 13 < 4096 ∧ ∀ r, r < t2 n a 13 - t1 (a + 1) → pb (t1 (a + 1) + r) ≠ n := by
  have h := al_of (al_of ck3_all n hn) a ha
  unfold ck3 at h
  rw [decide_eq_false (show ¬ n = 0 by omega), decide_eq_false (show ¬ a = 0 by omega)] at h
  simp only [Bool.false_or, Bool.and_eq_true, decide_eq_true_eq] at h
  obtain ⟨q1, q2, q3, q4⟩ := h
  refine ⟨q1, q2, q3, fun r hr hp => ?_⟩
  have := al_of q4 r hr
  simp [hp] at this
def SG (A : xM) (L : xL) (ac mo n v : Nat) (th : Nat) (s : xM × xL) : Prop := (∀ a b, a ≠ 27 → a ≠ 29 → a ≠ 30 → ¬ (a = 23 ∧ (b = 13 ∨ b = 9)) → s.1 a b = A a b) ∧ (∀ a b, a ≠ 28 → s.2 a b = L a b) ∧ s.1 23 9 = nI n ∧ (s.1 23 13 = 0 ∨ 4096 ≤ th) ∧ ∀ M', th ≤ M' → M' < 4096 → pb M' = n → sp ac mo M' v = false
theorem SG.less {A : xM} {L : xL} {ac mo n v th th' : Nat} {s : xM × xL} (h : SG A L ac mo n v th s) (h1 : th' ≤ th) (h2 : ∀ r, r < th - th' → pb (th' + r) ≠ n) (h3 : s.1 23 13 = 0) : SG A L ac mo n v th' s :=
  ⟨h.1, h.2.1, h.2.2.1, Or.inl h3, fun M' a b c => by
    by_cases d : th ≤ M'
    · exact h.2.2.2.2 M' d b c
    · have := h2 (M' - th') (by omega)
      rw [show th' + (M' - th') = M' by omega] at this
      exact absurd c this⟩
theorem vld_of {n a b c : Nat} (h1 : 1 ≤ a) (h2 : if n = 1 then b = 12 else a < b) (h3 : if n ≤ 2 then c = 12 else b < c) : vld n a b c = true := by
  unfold vld
  rw [decide_eq_true h1]
  by_cases e : n = 1
  · rw [if_pos e] at h2 ⊢
    rw [decide_eq_true h2]
    rw [if_pos (by omega)] at h3 ⊢
    rw [decide_eq_true h3]; rfl
  · rw [if_neg e] at h2 ⊢
    rw [decide_eq_true h2]
    by_cases e2 : n ≤ 2
    · rw [if_pos e2] at h3 ⊢
      rw [decide_eq_true h3]; rfl
    · rw [if_neg e2] at h3 ⊢
      rw [decide_eq_true h3]; rfl
theorem r_span {A : xM} {L : xL} {ac mo nc n v i : Nat} {cd : Nat → Nat} (hB : RB A ac mo nc cd) (h16 : ac < 16) (hm : mo ≤ 3000) (hn1 : 1 ≤ n) (hn : n ≤ 3) (hv : v ≤ 100) (hi : i < n) {post : Int32 → xM → xL → Prop}
    (h : ∀ (M : Nat) (A' : xM) (L' : xL), SPR ac mo n v M → A' 23 13 = 0 → (∀ a b, a ≠ 27 → a ≠ 29 → a ≠ 30 → ¬ (a = 23 ∧ (b = 13 ∨ b = 9)) → A' a b = A a b) → (∀ a b, a ≠ 28 → L' a b = L a b) → post (sA M i) A' L') : ∀ A7 : xM, A7 = xu A 23 9 (nI n) → ∃ k9, v_X6_span_49 (nI n) (nI v) (nI i) post k9 (1 : Int32) A7 L := by
  intro A7 e7
  obtain ⟨b1, b2, b3, b4⟩ := id hB
  have nx : ∀ (j : Nat) (x3 : Int32), x3 = nI j + 1 → x3 = nI (j + 1) := fun j x3 ex => by rw [ex]; exact nI_1 j
  refine pk_loop (σ := xM × xL) (fun f a s => v_X6_span_49 (nI n) (nI v) (nI i) post f (nI a) s.1 s.2) (fun a s => 1 ≤ a ∧ SG A L ac mo n v (t1 a) s) 13 1 (A7, L) (by omega)
    ⟨Nat.le_refl _, ⟨fun a b h1 h2 h3 h4 => by show A7 a b = _; rw [e7]; unfold xu; rw [if_neg (by omega)], fun _ _ _ => rfl, by show A7 23 9 = _; rw [e7]; simp [xu], Or.inr (by decide), fun M' a b _ => absurd a (Nat.not_le.mpr (Nat.lt_of_lt_of_le b (by decide)))⟩⟩ (fun f s hI => ?_) (fun f a s ha hI kk => ?_)
  · obtain ⟨-, i1, i2, i3, i4, i5⟩ := hI
    unfold v_X6_span_49
    have : t1 13 = 1 := by decide
    rw [this] at i4 i5
    refine pk_lt 12 13 (fun _ => ?_) (fun c => absurd c (by omega))
    have i4 : s.1 23 13 = 0 := by
      rcases i4 with e | e
      · exact e
      · omega
    exact h 0 s.1 s.2 ⟨by omega, fun M' a b c => i5 M' a b c, Or.inl rfl⟩ i4 i1 i2
  · obtain ⟨ha1, G⟩ := hI
    unfold v_X6_span_49
    have F3 := f3 (n := n) (by omega) ha hn1 ha1
    have mid : v_X6_span_70 (nI n) (nI v) (nI i) (nI a) (nI (b0 n a)) s.1 s.2 (fun x4 A L => v_X6_span_49 (nI n) (nI v) (nI i) post f x4 A L) post := by
      unfold v_X6_span_70
      have hb0 : b0 n a ≤ 13 := by unfold b0; split <;> omega
      refine pk_loop (σ := xM × xL) (fun f' b s' => v_X6_span_72 (nI n) (nI v) (nI i) (nI a) (fun x4 A L => v_X6_span_49 (nI n) (nI v) (nI i) post f x4 A L) post f' (nI b) s'.1 s'.2) (fun b s' => b0 n a ≤ b ∧ SG A L ac mo n v (t2 n a b) s') 13 (b0 n a) s hb0 ⟨Nat.le_refl _, by rw [F3.2.1]; exact G⟩ (fun f' s' hI => ?_) (fun f' b s' hb hI k2 => ?_)
      · obtain ⟨-, hI⟩ := hI
        unfold v_X6_span_72
        refine pk_lt 12 13 (fun _ x4 e4 => ?_) (fun c => absurd c (by omega))
        rw [nx a x4 e4]
        have h2lt := F3.2.2.1
        exact kk s' ⟨by omega, hI.less F3.1 F3.2.2.2 (by
          rcases hI.2.2.2.1 with e | e
          · exact e
          · omega)⟩
      · obtain ⟨hbb, G2⟩ := hI
        unfold v_X6_span_72
        have hb2 : if n = 1 then b = 12 else a < b := by
          unfold b0 at hbb
          by_cases e : n = 1
          · rw [if_pos e]; rw [if_pos (by omega)] at hbb; omega
          · rw [if_neg e]; rw [if_neg (by omega)] at hbb; omega
        have F4 := f4 (n := n) (by omega) ha hb hn1 ha1 hb2
        have inn : v_X6_span_93 (nI n) (nI v) (nI i) (nI a) (nI b) (nI (c0 n b)) s'.1 s'.2 (fun x4 A L => v_X6_span_49 (nI n) (nI v) (nI i) post f x4 A L) (fun x5 A L => v_X6_span_72 (nI n) (nI v) (nI i) (nI a) (fun x4 A L => v_X6_span_49 (nI n) (nI v) (nI i) post f x4 A L) post f' x5 A L) post := by
          unfold v_X6_span_93
          have hc0 : c0 n b ≤ 13 := by unfold c0; split <;> omega
          refine pk_loop (σ := xM × xL) (fun f'' c s'' => v_X6_span_95 (nI n) (nI v) (nI i) (nI a) (nI b) (fun x4 A L => v_X6_span_49 (nI n) (nI v) (nI i) post f x4 A L) (fun x5 A L => v_X6_span_72 (nI n) (nI v) (nI i) (nI a) (fun x4 A L => v_X6_span_49 (nI n) (nI v) (nI i) post f x4 A L) post f' x5 A L) post f'' (nI c) s''.1 s''.2) (fun c s'' => c0 n b ≤ c ∧ SG A L ac mo n v (t3 n a b c) s'') 13 (c0 n b) s' hc0 ⟨Nat.le_refl _, by rw [F4.2.1]; exact G2⟩ (fun f'' s'' hI => ?_) (fun f'' c s'' hc hI k3 => ?_)
          · obtain ⟨-, hI⟩ := hI
            unfold v_X6_span_95
            refine pk_lt 12 13 (fun _ x5 e5 => ?_) (fun c => absurd c (by omega))
            rw [nx b x5 e5]
            have h3lt := F4.2.2.1
            exact k2 s'' ⟨by omega, hI.less F4.1 F4.2.2.2 (by
              rcases hI.2.2.2.1 with e | e
              · exact e
              · omega)⟩
          · obtain ⟨hcc, G3⟩ := hI
            have hc2 : if n ≤ 2 then c = 12 else b < c := by
              unfold c0 at hcc
              by_cases e : n ≤ 2
              · rw [if_pos e]; rw [if_pos e] at hcc; omega
              · rw [if_neg e]; rw [if_neg e] at hcc; omega
            have vl := vld_of (n := n) ha1 hb2 hc2
            obtain ⟨F5a, F5b, F5c⟩ := f5 (n := n) (by omega) ha hb hc hn1 vl
            obtain ⟨g1, g2, g3, g4, g5⟩ := G3
            unfold v_X6_span_95
            generalize hM9 : t3 n a b (c + 1) = M at F5a F5b F5c
            refine pk_lt 12 c (fun c => absurd c (by omega)) (fun _ => ⟨pk_in 0 6 (by omega), fun A4 e4 => ⟨pk_in 1 6 (by omega), fun A6 e6 => ⟨pk_in 2 6 (by omega), fun A8 e8 => ?_⟩⟩⟩)
            have fr : ∀ x y, x ≠ 27 → A8 x y = s''.1 x y := fun x y hx => by
              rw [e8, e6, e4]; unfold xu
              rw [if_neg (by omega), if_neg (by omega), if_neg (by omega)]
            have w0 : A8 27 0 = nI a := by
              rw [e8, e6, e4]; unfold xu
              rw [if_neg (fun e => absurd e.2 (by decide)), if_neg (fun e => absurd e.2 (by decide)), if_pos ⟨rfl, rfl⟩]
            have w1 : A8 27 1 = nI b := by
              rw [e8, e6, e4]; unfold xu
              rw [if_neg (fun e => absurd e.2 (by decide)), if_pos ⟨rfl, rfl⟩]
            have w2 : A8 27 2 = nI c := by
              rw [e8, e6, e4]; unfold xu
              rw [if_pos ⟨rfl, rfl⟩]
            have esc : (sL M 12).1 = n := by rw [sL_c, sc_pb M F5a.2.1, F5a.1]
            have its : ∀ k, k < n → A8 27 k = nI ((sL M 12).2 k) ∧ 1 ≤ (sL M 12).2 k ∧ (sL M 12).2 k ≤ 100 := fun k hk => by
              have := sL_in (M := M) 12 (by omega) k (by omega)
              refine ⟨?_, this.1, by omega⟩
              rcases (show k = 0 ∨ k = 1 ∨ k = 2 by omega) with rfl | rfl | rfl
              · rw [F5c.1]; exact w0
              · rw [F5c.2.1 hk]; exact w1
              · rw [F5c.2.2 hk]; exact w2
            refine r_spans (n := n) (by omega) (by rw [fr _ _ (by omega)]; exact g3) (by rw [fr _ _ (by omega), g1 _ _ (by omega) (by omega) (by omega) (by omega)]; exact b1) h16 (by rw [fr _ _ (by omega), g1 _ _ (by omega) (by omega) (by omega) (by omega)]; exact b2) hm its hv (fun A10 L11 q1 q2 q3 => ?_)
            have esp : sB (rS n ac mo (sL M 12).2) v = sp ac mo M v := by unfold sp; rw [esc]
            rw [esp]
            have fr10 : ∀ x y, x ≠ 27 → x ≠ 29 → x ≠ 30 → ¬ (x = 23 ∧ (y = 13 ∨ y = 9)) → A10 x y = A x y := fun x y h1 h2 h3 h4 => by
              rw [q1 x y h2 h3 (by omega), fr x y h1]; exact g1 x y h1 h2 h3 h4
            have frL : ∀ x y, x ≠ 28 → L11 x y = L x y := fun x y h1 => (q3 x y h1).trans (g2 x y h1)
            refine ⟨fun c2 x6 e6' => ?_, fun c2 => ?_⟩
            · rw [nx c x6 e6']
              refine k3 (A10, L11) ⟨by omega, fr10, frL, ?_, Or.inl q2, fun M' h1 h2 h3 => ?_⟩
              · show A10 23 9 = _
                rw [q1 _ _ (by omega) (by omega) (by omega), fr _ _ (by omega)]; exact g3
              · rw [hM9] at h1
                by_cases d : t3 n a b c ≤ M'
                · exact g5 M' d h2 h3
                · have := F5b (M' - M) (by omega) (by rw [show M + (M' - M) = M' by omega]; exact h3)
                  rw [show M' = M by omega]
                  exact bI_0.1 c2
            · have fin := h M A10 L11 ⟨F5a.2.1, fun M' h1 h2 h3 => by
                  by_cases d : t3 n a b c ≤ M'
                  · exact g5 M' d h2 h3
                  · have := F5b (M' - M) (by omega) (by rw [show M + (M' - M) = M' by omega]; exact h3)
                    omega, Or.inr ⟨F5a.1, bI_0.2 c2⟩⟩ q2 fr10 frL
              unfold sA at fin
              rw [if_neg (by omega)] at fin
              refine ⟨pk_in i 6 (by omega), ?_⟩
              rw [nI_clamp (show i < 2 ^ 31 by omega), q1 _ _ (by omega) (by omega) (by omega), (its i hi).1]
              exact fin
        refine pk_lt 12 b (fun c => absurd c (by omega)) (fun _ => pk_le n 2 (fun c => ?_) (fun c => ?_))
        · have : c0 n b = 12 := by unfold c0; rw [if_pos c]
          rw [this] at inn
          exact inn
        · have : c0 n b = b + 1 := by unfold c0; rw [if_neg (by omega)]
          rw [this] at inn
          rw [nI_1]
          exact inn
    refine pk_lt 12 a (fun c => absurd c (by omega)) (fun _ => pk_le n 1 (fun c => ?_) (fun c => ?_))
    · have : b0 n a = 12 := by unfold b0; rw [if_pos c]
      rw [this] at mid
      exact mid
    · have : b0 n a = a + 1 := by unfold b0; rw [if_neg (by omega)]
      rw [this] at mid
      rw [nI_1]
      exact mid
