/-! what holds between calls -/
def CM (n ac mo nc : Nat) (it cd : Nat → Nat) (T : List Nat) : Prop := n ≤ 6 ∧ ac < 16 ∧ 1 ≤ mo ∧ mo ≤ 3000 ∧ nc ≤ 10 ∧ (∀ k, k < nc → 1 ≤ cd k ∧ cd k ≤ 100) ∧ (∀ k, k < n → 1 ≤ it k ∧ it k ≤ 100) ∧ T.length ≤ 33
def SGS (A : xM) : Prop := A 20 3 = -1 ∨ ∃ a, 1 ≤ a ∧ a ≤ 100 ∧ A 20 3 = nI a ∧ ∀ x, x ≤ 5040 → A 21 x = nI ((wZ a).1 x) - 1
def IC (n ac mo nc : Nat) (it cd : Nat → Nat) (T : List Nat) (A : xM) (L : xL) : Prop :=
  A 1 0 = nI ac ∧ A 1 1 = nI mo ∧ (∃ ch, HI 0 A L n ac mo it ch) ∧ (∃ n1 it1 ch1, HI 1 A L n1 ac mo it1 ch1) ∧ A 14 2 = nI nc ∧ (∀ k, k < nc → A 15 k = nI (cd k)) ∧ (∃ cm, BX A ac mo nc cd cm) ∧ A 18 1 = nI T.length ∧ (∀ i, i < T.length → A 19 i = nI (T.getD i 0)) ∧ SGS A
def IR (n ac mo nc : Nat) (it cd : Nat → Nat) (T : List Nat) (A : xM) (L : xL) : Prop :=
  A 23 0 = nI n ∧ (∀ k, k < n → A 24 k = nI (it k)) ∧ RB A ac mo nc cd ∧ A 23 7 = nI T.length ∧ (∀ i, i < T.length → A 26 i = nI (T.getD i 0)) ∧ RH A L n ac mo it
def Inv (A : xM) (L : xL) : Prop := ∃ (n ac mo nc : Nat) (it cd : Nat → Nat) (T : List Nat), CM n ac mo nc it cd T ∧ IC n ac mo nc it cd T A L ∧ IR n ac mo nc it cd T A L
def CFr (A : xM) (L : xL) (A' : xM) (L' : xL) : Prop := (∀ a b, 23 ≤ a → a < 36 → A' a b = A a b) ∧ ∀ b, L' 28 b = L 28 b
def RFr (A : xM) (L : xL) (A' : xM) (L' : xL) : Prop := (∀ a b, ¬ (23 ≤ a ∧ a < 36) → A' a b = A a b) ∧ ∀ a b, a ≠ 28 → L' a b = L a b
theorem CFr.rf {A : xM} {L : xL} : CFr A L A L := ⟨fun _ _ _ _ => rfl, fun _ => rfl⟩
theorem CFr.tr {A A1 A2 : xM} {L L1 L2 : xL} (h : CFr A L A1 L1) (h2 : CFr A1 L1 A2 L2) : CFr A L A2 L2 := ⟨fun a b c d => (h2.1 a b c d).trans (h.1 a b c d), fun b => (h2.2 b).trans (h.2 b)⟩
theorem RFr.rf {A : xM} {L : xL} : RFr A L A L := ⟨fun _ _ _ => rfl, fun _ _ _ => rfl⟩
theorem RFr.tr {A A1 A2 : xM} {L L1 L2 : xL} (h : RFr A L A1 L1) (h2 : RFr A1 L1 A2 L2) : RFr A L A2 L2 := ⟨fun a b c => (h2.1 a b c).trans (h.1 a b c), fun a b c => (h2.2 a b c).trans (h.2 a b c)⟩
theorem HG.c {q : Nat} (hq : q < 2) {A A' : xM} {L L' : xL} (h : HG q A L A' L') : CFr A L A' L' := ⟨fun a b c d => h.1 a b (by unfold hT; omega), fun b => h.2 28 b (by unfold hL; omega)⟩
section INV
variable {n ac mo nc : Nat} {it cd : Nat → Nat} {T : List Nat} {A A' : xM} {L L' : xL}
theorem BX.of {cm : Nat} (h : BX A ac mo nc cd cm) (e : ∀ a b, a = 14 ∨ a = 17 ∨ (196 ≤ a ∧ a ≤ 200) → A' a b = A a b) : BX A' ac mo nc cd cm := by
  obtain ⟨h1, h2, h3⟩ := h
  exact ⟨by rw [e _ _ (by omega)]; exact h1, h2, fun m a b c => ⟨by rw [e _ _ (by omega)]; exact (h3 m a b c).1, fun v q1 q2 => by rw [e _ _ (by omega)]; exact (h3 m a b c).2 v q1 q2⟩⟩
theorem SGS.of (h : SGS A) (e : ∀ a b, a = 20 ∨ a = 21 → A' a b = A a b) : SGS A' := by
  rcases h with h | ⟨a, h1, h2, h3, h4⟩
  · exact Or.inl (by rw [e _ _ (by omega)]; exact h)
  · exact Or.inr ⟨a, h1, h2, by rw [e _ _ (by omega)]; exact h3, fun x hx => by rw [e _ _ (by omega)]; exact h4 x hx⟩
theorem IC.of (h : IC n ac mo nc it cd T A L) (f : RFr A L A' L') : IC n ac mo nc it cd T A' L' := by
  obtain ⟨h1, h2, ⟨ch, h3⟩, ⟨n1, it1, ch1, h4⟩, h5, h6, ⟨cm, h7⟩, h8, h9, h10⟩ := h
  have e := f.1
  exact ⟨by rw [e _ _ (by omega)]; exact h1, by rw [e _ _ (by omega)]; exact h2, ⟨ch, h3.mem (fun a b q => e a b (by unfold hT at q; omega)) (fun a b q => f.2 a b (by unfold hL at q; omega))⟩, ⟨n1, it1, ch1, h4.mem (fun a b q => e a b (by unfold hT at q; omega)) (fun a b q => f.2 a b (by unfold hL at q; omega))⟩, by rw [e _ _ (by omega)]; exact h5, fun k hk => by rw [e _ _ (by omega)]; exact h6 k hk, ⟨cm, h7.of (fun a b q => e a b (by omega))⟩, by rw [e _ _ (by omega)]; exact h8, fun i hi => by rw [e _ _ (by omega)]; exact h9 i hi, h10.of (fun a b q => e a b (by omega))⟩
theorem IR.of (h : IR n ac mo nc it cd T A L) (f : CFr A L A' L') : IR n ac mo nc it cd T A' L' := by
  obtain ⟨h1, h2, ⟨b1, b2, b3, b4⟩, h4, h5, h6⟩ := h
  have e := f.1
  refine ⟨by rw [e _ _ (by omega) (by omega)]; exact h1, fun k hk => by rw [e _ _ (by omega) (by omega)]; exact h2 k hk, ⟨by rw [e _ _ (by omega) (by omega)]; exact b1, by rw [e _ _ (by omega) (by omega)]; exact b2, by rw [e _ _ (by omega) (by omega)]; exact b3, fun k hk => by rw [e _ _ (by omega) (by omega)]; exact b4 k hk⟩, by rw [e _ _ (by omega) (by omega)]; exact h4, fun i hi => by rw [e _ _ (by omega) (by omega)]; exact h5 i hi, ?_⟩
  rcases h6 with h6 | ⟨h6, h7, h8⟩
  · exact Or.inl (by rw [e _ _ (by omega) (by omega)]; exact h6)
  · exact Or.inr ⟨by rw [e _ _ (by omega) (by omega)]; exact h6, by rw [e _ _ (by omega) (by omega)]; exact h7, fun s v a b c => by rw [f.2]; exact h8 s v a b c⟩
/-- the heap has changed -/
theorem IC.heap0 (h : IC n ac mo nc it cd T A L) {n' ch' : Nat} {it' : Nat → Nat} (h0 : HI 0 A' L' n' ac mo it' ch') (f : HG 0 A L A' L') : IC n' ac mo nc it' cd T A' L' := by
  obtain ⟨h1, h2, -, ⟨n1, it1, ch1, h4⟩, h5, h6, ⟨cm, h7⟩, h8, h9, h10⟩ := h
  have e := f.1
  exact ⟨by rw [e _ _ (by unfold hT; omega)]; exact h1, by rw [e _ _ (by unfold hT; omega)]; exact h2, ⟨ch', h0⟩, ⟨n1, it1, ch1, h4.mem (fun a b q => e a b (by unfold hT at q ⊢; omega)) (fun a b q => f.2 a b (by unfold hL at q ⊢; omega))⟩, by rw [e _ _ (by unfold hT; omega)]; exact h5, fun k hk => by rw [e _ _ (by unfold hT; omega)]; exact h6 k hk, ⟨cm, h7.of (fun a b q => e a b (by unfold hT; omega))⟩, by rw [e _ _ (by unfold hT; omega)]; exact h8, fun i hi => by rw [e _ _ (by unfold hT; omega)]; exact h9 i hi, h10.of (fun a b q => e a b (by unfold hT; omega))⟩
/-- the trial heap has changed -/
theorem IC.heap1 (h : IC n ac mo nc it cd T A L) {n' ch' : Nat} {it' : Nat → Nat} (h0 : HI 1 A' L' n' ac mo it' ch') (f : HG 1 A L A' L') : IC n ac mo nc it cd T A' L' := by
  obtain ⟨h1, h2, ⟨ch, h3⟩, -, h5, h6, ⟨cm, h7⟩, h8, h9, h10⟩ := h
  have e := f.1
  exact ⟨by rw [e _ _ (by unfold hT; omega)]; exact h1, by rw [e _ _ (by unfold hT; omega)]; exact h2, ⟨ch, h3.mem (fun a b q => e a b (by unfold hT at q ⊢; omega)) (fun a b q => f.2 a b (by unfold hL at q ⊢; omega))⟩, ⟨n', it', ch', h0⟩, by rw [e _ _ (by unfold hT; omega)]; exact h5, fun k hk => by rw [e _ _ (by unfold hT; omega)]; exact h6 k hk, ⟨cm, h7.of (fun a b q => e a b (by unfold hT; omega))⟩, by rw [e _ _ (by unfold hT; omega)]; exact h8, fun i hi => by rw [e _ _ (by unfold hT; omega)]; exact h9 i hi, h10.of (fun a b q => e a b (by unfold hT; omega))⟩
theorem IC.look (h : IC n ac mo nc it cd T A L) (hm : mo ≤ 3000) {post : xM → xL → Prop} (k : ∀ A' L' fl nf, IC n ac mo nc it cd T A' L' → CFr A L A' L' → HV 0 A' L' (wR n ac mo it) fl nf → post A' L') : v_X1_refresh 0 A L post := by
  obtain ⟨ch, h3⟩ := h.2.2.1
  refine s_refresh (by decide) h3 h.1 h.2.1 hm (fun A' L' h0 f => ?_)
  obtain ⟨fl, nf, V⟩ := h0.hv
  exact k A' L' fl nf (h.heap0 h0 f) (f.c (by decide)) V
theorem IR.look (h : IR n ac mo nc it cd T A L) (c : CM n ac mo nc it cd T) {post : xM → xL → Prop} (k : ∀ A' L', IR n ac mo nc it cd T A' L' → RFr A L A' L' → RR (wR n ac mo it) n A' L' → post A' L') : v_X6_heap A L post := by
  obtain ⟨h1, h2, ⟨b1, b2, b3, b4⟩, h4, h5, h6⟩ := h
  refine r_heap c.1 h1 b1 c.2.1 b2 c.2.2.2.1 (fun k hk => ⟨h2 k hk, c.2.2.2.2.2.2.1 k hk⟩) h6 (fun A' L' e f g1 g2 g3 => ?_)
  exact k A' L' ⟨by rw [e _ _ (by omega) (by omega) (by omega) (by omega)]; exact h1, fun k hk => by rw [e _ _ (by omega) (by omega) (by omega) (by omega)]; exact h2 k hk, ⟨by rw [e _ _ (by omega) (by omega) (by omega) (by omega)]; exact b1, by rw [e _ _ (by omega) (by omega) (by omega) (by omega)]; exact b2, by rw [e _ _ (by omega) (by omega) (by omega) (by omega)]; exact b3, fun k hk => by rw [e _ _ (by omega) (by omega) (by omega) (by omega)]; exact b4 k hk⟩, by rw [e _ _ (by omega) (by omega) (by omega) (by omega)]; exact h4, fun i hi => by rw [e _ _ (by omega) (by omega) (by omega) (by omega)]; exact h5 i hi, Or.inr ⟨g1, g2, g3⟩⟩ ⟨fun a b q => e a b (by omega) (by omega) (by omega) (by omega), f⟩ (g3.rr c.1 g2)
theorem Inv.mk (c : CM n ac mo nc it cd T) (h : IC n ac mo nc it cd T A L) (f : RFr A L A' L') (r : IR n ac mo nc it cd T A' L') : Inv A' L' := ⟨n, ac, mo, nc, it, cd, T, c, h.of f, r⟩
theorem CM.pow (c : CM n ac mo nc it cd T) : 2 ^ n ≤ 64 := Nat.le_trans (Nat.pow_le_pow_right (by decide) c.1) (by decide)
theorem CM.as1 (c : CM n ac mo nc it cd T) (v : Nat) : aS (wR n ac mo it) (64 - 48 * 0) v = aS (wR n ac mo it) (2 ^ n) v := aS_R c.pow
theorem CM.hs1 (c : CM n ac mo nc it cd T) (s : Nat) : hS (wR n ac mo it) (64 - 48 * 0) s = hS (wR n ac mo it) (2 ^ n) s := by
  funext v
  unfold hS
  rw [c.as1 v]
end INV
/-! answers of guards -/
theorem z0 {X Y : Prop} (x : X) : ((0 : Int32) = 0 → X) ∧ (¬ (0 : Int32) = 0 → Y) := ⟨fun _ => x, fun c => absurd rfl c⟩
theorem z0' {X Y : Prop} (x : X) : (¬ (0 : Int32) = 0 → Y) ∧ ((0 : Int32) = 0 → X) := ⟨fun c => absurd rfl c, fun _ => x⟩
theorem z1 {X Y : Prop} (y : Y) : ((1 : Int32) = 0 → X) ∧ (¬ (1 : Int32) = 0 → Y) := ⟨fun c => absurd c (by decide), fun _ => y⟩
theorem z1' {X Y : Prop} (y : Y) : (¬ (1 : Int32) = 0 → Y) ∧ ((1 : Int32) = 0 → X) := ⟨fun _ => y, fun c => absurd c (by decide)⟩
theorem oY {x a b : Int32} {post : Int32 → Prop} (c : wI x a b) (h : post 0) : v_X5_isOutside x a b post := s_out (fun _ => h) (fun c2 => absurd c c2)
theorem oN {x a b : Int32} {post : Int32 → Prop} (c : ¬ wI x a b) (h : post 1) : v_X5_isOutside x a b post := s_out (fun c2 => absurd c2 c) (fun _ => h)
theorem iY {x a b : Int32} {a' b' : Int64} {post : Int32 → Prop} (c : wI x a b) (h : post 1) (ea : a.toInt64 = a' := by rfl) (eb : b.toInt64 = b' := by rfl) : v_X6_in x.toInt64 a' b' post := by
  rw [← ea, ← eb]; exact s_in (fun _ => h) (fun c2 => absurd c c2)
theorem iN {x a b : Int32} {a' b' : Int64} {post : Int32 → Prop} (c : ¬ wI x a b) (h : post 0) (ea : a.toInt64 = a' := by rfl) (eb : b.toInt64 = b' := by rfl) : v_X6_in x.toInt64 a' b' post := by
  rw [← ea, ← eb]; exact s_in (fun c2 => absurd c2 c) (fun _ => h)
/-- two answers, to be compared -/
def EQ (K : xM → xL → Prop) (r r2 : Int32) (A : xM) (L : xL) : Prop := (r = r2 → K A L) ∧ (¬ r = r2 → False)
theorem EQ.mk {K : xM → xL → Prop} {r : Int32} {A : xM} {L : xL} (h : K A L) : EQ K r r A L := ⟨fun _ => h, fun c => c rfl⟩
theorem wI_less {x : Int32} {n : Nat} (hn : n < 2 ^ 31) (h : wI x 0 (nI n - 1)) : ∃ k, k < n ∧ x = nI k := by
  rw [less_I] at h
  by_cases c : n = 0
  · rw [if_pos c] at h
    have h1 := h.1
    have h2 := h.2
    rw [fa_le, show (0 : Int32).toInt = 0 by decide] at h1
    rw [fa_le, show (-1 : Int32).toInt = -1 by decide] at h2
    omega
  · rw [if_neg c] at h
    obtain ⟨k, _, h2, h3⟩ := wI_nat (a := 0) (b := n - 1) (by omega) (by omega) h
    exact ⟨k, by omega, h3⟩
theorem wI_less_of {k n : Nat} (h : k < n) (hn : n < 2 ^ 31) : wI (nI k) 0 (nI n - 1) := by
  rw [less_I, if_neg (by omega)]
  exact wI_of (a := 0) (by omega) (by omega) (by omega)
