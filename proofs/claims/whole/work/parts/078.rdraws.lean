/-! draws: the reference; common divisors; most -/
theorem r_common {post : Int32 → Prop} : ∀ (N x y : Nat), y < N → x < 2 ^ 31 → y < 2 ^ 31 → post (nI (Nat.gcd x y)) → ∃ k9, v_X6_common_4 post k9 (nI x) (nI y) := by
  intro N
  induction N with
  | zero => intro x y h; omega
  | succ N ih =>
    intro x y hN hx hy h
    by_cases c : y = 0
    · subst c
      rw [Nat.gcd_zero_right] at h
      refine ⟨1, ?_⟩
      unfold v_X6_common_4
      exact ⟨fun _ => h, fun c => absurd rfl c⟩
    · have hlt := Nat.mod_lt x (show 0 < y by omega)
      obtain ⟨k, hk⟩ := ih y (x % y) (by omega) hy (by omega) (by
        rw [Nat.gcd_comm x y, Nat.gcd_rec, Nat.gcd_comm] at h
        exact h)
      refine ⟨k + 1, ?_⟩
      unfold v_X6_common_4
      have hn : ¬ nI y = 0 := nI_ne0 (by omega) hy
      refine ⟨fun c2 => absurd c2 hn, fun _ => ⟨hn, fun x4 e4 => ?_⟩⟩
      rw [pk_rem hx (by omega) hy] at e4
      rw [e4]
      exact hk
theorem c_gcd {t h : Nat} (ht : t < 2 ^ 30) (hh : h < 2 ^ 30) {post : Int32 → Prop} (k : post (nI (if t = 0 then 0 else Nat.gcd t h))) : v_X5_greatestCommonDivisor (nI t) (nI h) post := by
  unfold v_X5_greatestCommonDivisor
  intro x2 e2
  have e2 : x2 = nI (if 1 < t then 1 else t) := by
    rw [e2]
    by_cases c : 1 < t
    · rw [if_pos c, if_pos (show (1 : Int32) < nI t from nI_lt (a := 1) c (by omega))]; rfl
    · rw [if_neg c, if_neg (show ¬ (1 : Int32) < nI t from nI_nlt (a := 1) (by omega) (by omega))]
  subst e2
  refine pk_loop (σ := Nat) (fun n i s => v_X5_greatestCommonDivisor_8 (nI t) (nI h) post n (nI s) (nI i)) (fun i s => 2 ≤ i ∧ s ≤ t ∧ (t = 0 → s = 0) ∧ (0 < t → 1 ≤ s ∧ s ∣ t ∧ s ∣ h ∧ ∀ e, e < i → e ∣ t → e ∣ h → e ≤ s)) (if t ≤ 1 then 2 else t + 1) 2 (if 1 < t then 1 else t) (by split <;> omega) ⟨Nat.le_refl _, by split <;> omega, fun c => by rw [if_neg (by omega), c], fun c => ?_⟩ (fun n s hI => ?_) (fun n i s hi hI kk => ?_)
  · have e : (if 1 < t then 1 else t) = 1 := by split <;> omega
    rw [e]
    exact ⟨Nat.le_refl _, Nat.one_dvd _, Nat.one_dvd _, fun e he _ _ => by omega⟩
  · obtain ⟨_, h1, h2, h3⟩ := hI
    unfold v_X5_greatestCommonDivisor_8
    have fin : post (nI s) := by
      by_cases c : t = 0
      · rw [if_pos c] at k; rw [h2 c]; exact k
      · rw [if_neg c] at k
        obtain ⟨q1, q2, q3, q4⟩ := h3 (by omega)
        have g1 := Nat.le_of_dvd (show 0 < t by omega) (Nat.gcd_dvd_left t h)
        have g2 := q4 (Nat.gcd t h) (by split <;> omega) (Nat.gcd_dvd_left t h) (Nat.gcd_dvd_right t h)
        have g3 := Nat.le_of_dvd (Nat.gcd_pos_of_pos_left h (by omega)) (Nat.dvd_gcd q2 q3)
        rw [show s = Nat.gcd t h by omega]
        exact k
    exact pk_lt t (if t ≤ 1 then 2 else t + 1) (fun _ => fin) (fun c => absurd c (by split <;> omega)) rfl rfl (by omega) (by split <;> omega)
  · obtain ⟨hi2, h1, h2, h3⟩ := hI
    unfold v_X5_greatestCommonDivisor_8
    have hit : i ≤ t := by split at hi <;> omega
    obtain ⟨q1, q2, q3, q4⟩ := h3 (by omega)
    have hn : ¬ nI i = 0 := nI_ne0 (by omega) (by omega)
    have nxt : ∀ x3 : Int32, x3 = nI i + 1 → x3 = nI (i + 1) := fun x3 ex => by rw [ex]; exact nI_1 i
    have stay : ¬ (i ∣ t ∧ i ∣ h) → v_X5_greatestCommonDivisor_8 (nI t) (nI h) post n (nI s) (nI (i + 1)) := fun hn => kk s ⟨by omega, h1, h2, fun _ => ⟨q1, q2, q3, fun e he a b => by
      by_cases e1 : e = i
      · subst e1; exact absurd ⟨a, b⟩ hn
      · exact q4 e (by omega) a b⟩⟩
    refine pk_lt t i (fun c => absurd c (by omega)) (fun _ => ⟨hn, ?_⟩)
    rw [pk_rem (by omega) (by omega) (by omega), pk_rem (by omega) (by omega) (by omega)]
    have m1 := Nat.mod_lt t (show 0 < i by omega)
    have m2 := Nat.mod_lt h (show 0 < i by omega)
    refine ⟨fun c x3 e3 => ?_, fun c => ⟨hn, fun c2 x3 e3 => ?_, fun c2 x3 e3 => ?_⟩⟩
    · rw [nxt x3 e3]
      refine stay fun hd => c ?_
      rw [Nat.mod_eq_zero_of_dvd hd.1]; rfl
    · rw [nxt x3 e3]
      refine stay fun hd => c2 ?_
      rw [Nat.mod_eq_zero_of_dvd hd.2]; rfl
    · rw [nxt x3 e3]
      have c : t % i = 0 := (nI_eq (a := t % i) (b := 0) (by omega) (by omega)).mp c
      have c2 : h % i = 0 := (nI_eq (a := h % i) (b := 0) (by omega) (by omega)).mp c2
      refine kk i ⟨by omega, hit, fun c => by omega, fun _ => ⟨by omega, Nat.dvd_of_mod_eq_zero c, Nat.dvd_of_mod_eq_zero c2, fun e he _ _ => by omega⟩⟩
def dA (t h w : Nat) : Int32 := if w = 0 then nI t else if w = 1 then nI h else if w = 2 then (if t = 0 then 0 else nI (h / Nat.gcd t h)) else (if t = 0 then 1 else nI (t / Nat.gcd t h))
/-- what the reference's own state is between calls -/
def RB (A : xM) (ac mo nc : Nat) (cd : Nat → Nat) : Prop := A 23 2 = nI ac ∧ A 23 3 = nI mo ∧ A 23 4 = nI nc ∧ ∀ k, k < nc → A 25 k = nI (cd k)
theorem r_drawn {A : xM} {L : xL} {ac mo nc n d : Nat} {cd : Nat → Nat} (hB : RB A ac mo nc cd) (h16 : ac < 16) (hm : mo ≤ 3000) (hnc : nc ≤ 10) (hcd : ∀ k, k < nc → 1 ≤ cd k ∧ cd k ≤ 100) (hn : n ≤ 4) (hd : d < 2 ^ nc) (hp : pb d = n) {post : xM → xL → Prop}
    (h : ∀ (A' : xM) (L' : xL), RR (wR (dl cd d nc).1 ac mo (dl cd d nc).2) (dl cd d nc).1 A' L' → A' 23 13 = 0 → (∀ a b, a ≠ 27 → a ≠ 29 → a ≠ 30 → ¬ (a = 23 ∧ (b = 13 ∨ b = 9)) → A' a b = A a b) → (∀ a b, a ≠ 28 → L' a b = L a b) → post A' L') : v_X6_drawn (nI d) A L post := by
  obtain ⟨b1, b2, b3, b4⟩ := hB
  have hd10 : d < 1024 := Nat.lt_of_lt_of_le hd (Nat.le_trans (Nat.pow_le_pow_right (by decide) hnc) (by decide))
  unfold v_X6_drawn
  intro A1 e1
  refine pk_loop (σ := xM) (fun f i s => v_X6_drawn_7 (nI d) post f (nI i) s L)
    (fun i s => s 23 9 = nI (dl cd d i).1 ∧ (∀ j, j < (dl cd d i).1 → s 27 j = nI ((dl cd d i).2 j)) ∧ ∀ a b, a ≠ 27 → ¬ (a = 23 ∧ b = 9) → s a b = A a b) nc 0 A1 (by omega) ⟨by rw [e1]; simp [xu, dl]; rfl, fun j hj => by
      have hj : j < 0 := hj
      omega, fun a b h1 h2 => by rw [e1]; unfold xu; rw [if_neg h2]⟩ (fun f s hI => ?_) (fun f i s hi hI kk => ?_)
  · obtain ⟨i1, i2, i3⟩ := hI
    unfold v_X6_drawn_7
    rw [i3 23 4 (by omega) (by omega), b3]
    refine pk_le nc nc (fun _ => ?_) (fun c => absurd c (by omega))
    have hle := pc_pb (k := nc) hd10 hnc
    have hn6 : (dl cd d nc).1 ≤ 6 := by rw [dl_pc]; omega
    refine r_fill hn6 i1 (by rw [i3 23 2 (by omega) (by omega)]; exact b1) h16 (by rw [i3 23 3 (by omega) (by omega)]; exact b2) hm (fun j hj => ⟨i2 j hj, dl_in nc hcd j hj⟩) (fun A2 L2 g1 g2 g3 g4 => ?_)
    refine h A2 L2 (g4.rr hn6 (by rw [g1 23 9 (by omega) (by omega) (by omega)]; exact i1)) g2 (fun a b h1 h2 h3 h4 => ?_) g3
    rw [g1 a b h2 h3 (by omega), i3 a b h1 (by omega)]
  · obtain ⟨i1, i2, i3⟩ := hI
    unfold v_X6_drawn_7
    rw [i3 23 4 (by omega) (by omega), b3]
    have hmod := Nat.mod_lt (d / 2 ^ i) (show 0 < 2 by decide)
    have nxt : ∀ x3 : Int32, x3 = nI i + 1 → x3 = nI (i + 1) := fun x3 ex => by rw [ex]; exact nI_1 i
    refine pk_le nc i (fun c => absurd c (by omega)) (fun _ => ?_)
    rw [bit_nI (by omega) (by omega)]
    refine ⟨fun c x2 e2 => ?_, fun c => ⟨pk_in i 10 (by omega), ?_⟩⟩
    · rw [nxt x2 e2]
      have c : ¬ d / 2 ^ i % 2 = 1 := fun e => c (by rw [e]; rfl)
      refine kk s ?_
      rw [dl_s, if_neg c]
      exact ⟨i1, i2, i3⟩
    · have c : d / 2 ^ i % 2 = 1 := (nI_eq (a := d / 2 ^ i % 2) (b := 1) (by omega) (by omega)).mp c
      have epc : pc d (i + 1) = pc d i + d / 2 ^ i % 2 := rfl
      have hle := pc_pb (k := i + 1) hd10 (by omega)
      have hm1 : (dl cd d i).1 < 4 := by rw [dl_pc]; omega
      rw [i1]
      refine ⟨pk_in (dl cd d i).1 6 (by omega), fun A8 e8 A9 e9 x2 e2 => ?_⟩
      rw [nxt x2 e2]
      rw [nI_clamp (show (dl cd d i).1 < 2 ^ 31 by omega), nI_clamp (show i < 2 ^ 31 by omega), i3 25 i (by omega) (by omega), b4 i hi] at e8
      have e89 : A8 23 9 = nI (dl cd d i).1 := by rw [e8]; unfold xu; rw [if_neg (by omega)]; exact i1
      rw [e89, nI_1] at e9
      refine kk A9 ?_
      rw [dl_s, if_pos c]
      refine ⟨by rw [e9]; simp [xu], fun j hj => ?_, fun a b h1 h2 => ?_⟩
      · have hj : j < (dl cd d i).1 + 1 := hj
        show A9 27 j = nI (uF (dl cd d i).2 (dl cd d i).1 (cd i) j)
        rw [e9, e8]; unfold xu uF
        rw [if_neg (by omega)]
        by_cases e : j = (dl cd d i).1
        · rw [if_pos ⟨rfl, e⟩, if_pos e]
        · rw [if_neg (by omega), if_neg e]; exact i2 j (by omega)
      · rw [e9, e8]; unfold xu
        rw [if_neg h2, if_neg (by omega)]
        exact i3 a b h1 h2
/-- what a call of the reference may touch when it draws -/
def RF (A A' : xM) (L L' : xL) : Prop := (A' 23 13 = 0 ∨ (A' = A ∧ L' = L)) ∧ (∀ a b, a ≠ 27 → a ≠ 29 → a ≠ 30 → a ≠ 33 → ¬ (a = 23 ∧ (b = 13 ∨ b = 9)) → A' a b = A a b) ∧ ∀ a b, a ≠ 28 → L' a b = L a b
theorem dC_s {n i : Nat} : dC n (i + 1) = dC n i + if pb i = n then 1 else 0 := rfl
theorem dR_s {ac mo nc : Nat} {cd : Nat → Nat} {n v i : Nat} : dR ac mo nc cd n v (i + 1) = dR ac mo nc cd n v i + if pb i = n ∧ rD ac mo nc cd i v = true then 1 else 0 := rfl
theorem pb_12 (i : Nat) : pb i ≤ 12 := by
  have := fb_sm_bound (f := fun k => i / 2 ^ k % 2) (c := 1) (n := 12) (fun k _ => by have := Nat.mod_lt (i / 2 ^ k) (show 0 < 2 by decide); omega)
  unfold pb pc
  omega
theorem RB.of {A A' : xM} {ac mo nc : Nat} {cd : Nat → Nat} (h : RB A ac mo nc cd) (e : ∀ a b, a ≠ 27 → a ≠ 29 → a ≠ 30 → a ≠ 33 → ¬ (a = 23 ∧ (b = 13 ∨ b = 9)) → A' a b = A a b) : RB A' ac mo nc cd := by
  obtain ⟨b1, b2, b3, b4⟩ := h
  exact ⟨by rw [e _ _ (by omega) (by omega) (by omega) (by omega) (by omega)]; exact b1, by rw [e _ _ (by omega) (by omega) (by omega) (by omega) (by omega)]; exact b2, by rw [e _ _ (by omega) (by omega) (by omega) (by omega) (by omega)]; exact b3, fun k hk => by rw [e _ _ (by omega) (by omega) (by omega) (by omega) (by omega)]; exact b4 k hk⟩
theorem r_draws {A : xM} {L : xL} {ac mo nc n v w : Nat} {cd : Nat → Nat} (hB : RB A ac mo nc cd) (h16 : ac < 16) (hm : mo ≤ 3000) (hnc : nc ≤ 10) (hcd : ∀ k, k < nc → 1 ≤ cd k ∧ cd k ≤ 100) (hn1 : 1 ≤ n) (hn : n ≤ 4) (h1 : 1 ≤ v) (h2 : v < 3001) (hw : w < 4) {post : Int32 → xM → xL → Prop}
    (h : ∀ (A' : xM) (L' : xL), RF A A' L L' → post (dA (dC n (2 ^ nc)) (dR ac mo nc cd n v (2 ^ nc)) w) A' L') : ∃ k9, v_X6_draws_49 (nI n) (nI v) (nI w) post k9 (0 : Int32) (0 : Int32) (0 : Int32) A L := by
  have h2nc : 2 ^ nc ≤ 1024 := Nat.le_trans (Nat.pow_le_pow_right (by decide) hnc) (by decide)
  refine pk_loop (σ := Nat × xM × xL) (fun f i s => v_X6_draws_49 (nI n) (nI v) (nI w) post f (nI (dC n i)) (nI s.1) (nI i) s.2.1 s.2.2)
    (fun i s => RF A s.2.1 L s.2.2 ∧ s.1 ≤ i ∧ (0 < w → s.1 = dR ac mo nc cd n v i)) (2 ^ nc) 0 (0, A, L) (Nat.zero_le _) ⟨⟨Or.inr ⟨rfl, rfl⟩, fun _ _ _ _ _ _ _ => rfl, fun _ _ _ => rfl⟩, Nat.le_refl _, fun _ => rfl⟩ (fun f s hI => ?_) (fun f i s hi hI kk => ?_)
  · obtain ⟨i1, i2, i3⟩ := hI
    unfold v_X6_draws_49
    rw [i1.2.1 23 4 (by omega) (by omega) (by omega) (by omega) (by omega), hB.2.2.1, w_shl nc (by omega)]
    have hC := dC_le (n := n) (i := 2 ^ nc)
    have K := h s.2.1 s.2.2 i1
    refine pk_le (2 ^ nc) (2 ^ nc) (fun _ => pk_le 2 w (fun c => ?_) (fun c => ?_)) (fun c => absurd c (by omega))
    · rw [← i3 (by omega)] at K
      generalize s.1 = x at i2 K ⊢
      generalize dC n (2 ^ nc) = t at hC K ⊢
      unfold v_X6_common
      refine r_common (t + 1) x t (by omega) (by omega) (by omega) ?_
      unfold dA at K
      rw [if_neg (by omega), if_neg (by omega)] at K
      rw [Nat.gcd_comm]
      refine ⟨fun c2 => ?_, fun c2 => ?_⟩
      · have c2 : t ≠ 0 := fun e => c2 (by rw [e]; rfl)
        rw [if_neg c2, if_neg c2] at K
        have gp := Nat.gcd_pos_of_pos_left x (show 0 < t by omega)
        have gl := Nat.gcd_le_left x (show 0 < t by omega)
        have hn0 : ¬ nI (Nat.gcd t x) = 0 := nI_ne0 gp (by omega)
        rw [pk_div (by omega) gp (by omega), pk_div (by omega) gp (by omega)]
        refine ⟨fun c3 => ⟨hn0, ?_⟩, fun c3 => ⟨hn0, ?_⟩⟩
        · rw [if_neg (fun e => c3 (by rw [e]; rfl))] at K; exact K
        · have c3 : w = 2 := (nI_eq (a := w) (b := 2) (by omega) (by omega)).mp c3
          rw [if_pos c3] at K; exact K
      · have c2 : t = 0 := (nI_eq (a := t) (b := 0) (by omega) (by omega)).mp c2
        rw [if_pos c2, if_pos c2] at K
        have e : nI w - 2 = if w = 2 then 0 else 1 := by
          rcases (show w = 2 ∨ w = 3 by omega) with rfl | rfl <;> decide
        rw [e]; exact K
    · refine ⟨fun c2 => ?_, fun c2 => ?_⟩
      · have c2 : w ≠ 0 := fun e => c2 (by rw [e]; rfl)
        rw [i3 (by omega)]
        unfold dA at K
        rw [if_neg c2, if_pos (by omega)] at K
        exact K
      · have c2 : w = 0 := (nI_eq (a := w) (b := 0) (by omega) (by omega)).mp c2
        unfold dA at K
        rw [if_pos c2] at K
        exact K
  · obtain ⟨i1, i2, i3⟩ := hI
    unfold v_X6_draws_49
    rw [i1.2.1 23 4 (by omega) (by omega) (by omega) (by omega) (by omega), hB.2.2.1, w_shl nc (by omega)]
    have nxt : ∀ x3 : Int32, x3 = nI i + 1 → x3 = nI (i + 1) := fun x3 ex => by rw [ex]; exact nI_1 i
    have hpb := pb_12 i
    refine pk_le (2 ^ nc) i (fun c => absurd c (by omega)) (fun _ => s_bits (by omega) ⟨fun c x6 e6 => ?_, fun c x4 e4 => ?_⟩)
    · rw [nxt x6 e6]
      have c : pb i ≠ n := fun e => c (by rw [e])
      have := kk s ⟨i1, by omega, fun hw0 => by rw [dR_s, if_neg (fun h => c h.1)]; exact i3 hw0⟩
      rw [dC_s, if_neg c] at this
      exact this
    · have c : pb i = n := (nI_eq (by omega) (by omega)).mp c
      have e4 : x4 = nI (dC n (i + 1)) := by
        rw [e4, dC_s, if_pos c]; exact nI_1 _
      subst e4
      refine pk_le w 0 (fun c2 x6 e6 => ?_) (fun c2 => ?_)
      · rw [nxt x6 e6]
        exact kk s ⟨i1, by omega, fun hw0 => by omega⟩
      · refine r_drawn (hB.of i1.2.1) h16 hm hnc hcd hn hi c (fun A15 L16 g1 g2 g3 g4 => r_reach g1 h1 h2 ?_)
        have i1' : RF A A15 L L16 := ⟨Or.inl g2, fun a b q1 q2 q3 q4 q5 => (g3 a b q1 q2 q3 q5).trans (i1.2.1 a b q1 q2 q3 q4 q5), fun a b q => (g4 a b q).trans (i1.2.2 a b q)⟩
        have st : dR ac mo nc cd n v (i + 1) = dR ac mo nc cd n v i + if rD ac mo nc cd i v = true then 1 else 0 := by
          rw [dR_s]
          simp [c]
        refine ⟨fun c3 x5 e5 x6 e6 => ?_, fun c3 x5 e5 x6 e6 => ?_⟩
        · rw [nxt x6 e6, e5, Int32.add_zero]
          have c3 : rD ac mo nc cd i v = false := bI_0.1 c3
          exact kk (s.1, A15, L16) ⟨i1', by show s.1 ≤ i + 1; omega, fun hw0 => by rw [st, c3]; exact i3 hw0⟩
        · rw [nxt x6 e6, e5]
          have c3 : rD ac mo nc cd i v = true := bI_0.2 c3
          have := kk (s.1 + 1, A15, L16) ⟨i1', by show s.1 + 1 ≤ i + 1; omega, fun hw0 => by rw [st, c3, if_pos rfl]; exact congrArg (· + 1) (i3 hw0)⟩
          have e : nI s.1 + 1 = nI (s.1 + 1) := nI_1 _
          rw [e]
          exact this
/-- the least of those with the most -/
def bM (f : Nat → Nat) : Nat → Nat
  | 0 => 1
  | i + 1 => if 2 ≤ i ∧ f (bM f i) < f i then i else bM f i
theorem bM_in {f : Nat → Nat} : ∀ i, 1 ≤ bM f i ∧ (bM f i = 1 ∨ bM f i < i)
  | 0 => ⟨Nat.le_refl _, Or.inl rfl⟩
  | i + 1 => by
    have h := bM_in (f := f) i
    unfold bM
    split
    · omega
    · omega
theorem bM_s {f : Nat → Nat} {i : Nat} : bM f (i + 1) = if 2 ≤ i ∧ f (bM f i) < f i then i else bM f i := rfl
theorem bM_cong {f g : Nat → Nat} : ∀ i, i ≤ 101 → (∀ v, 1 ≤ v → v < 101 → f v = g v) → bM f i = bM g i
  | 0, _, _ => rfl
  | i + 1, h, e => by
    have ih := bM_cong (f := f) (g := g) i (by omega) e
    have hb := bM_in (f := g) i
    rw [bM_s, bM_s, ih]
    by_cases c : 2 ≤ i
    · rw [e _ hb.1 (by omega), e i (by omega) (by omega)]
    · simp [c]
def mA (f : Nat → Nat) (w : Nat) : Int32 := if w = 0 then nI (bM f 101) else nI (f (bM f 101))
theorem c_most {A : xM} {L : xL} {n w : Nat} {f : Nat → Nat} (hn1 : 1 ≤ n) (hn : n ≤ 4) (hw : w < 2) (hf : ∀ v, 1 ≤ v → v < 101 → A (196 + n) v = nI (f v) ∧ f v < 2 ^ 30) {post : Int32 → xM → xL → Prop} (k : post (mA f w) A L) : ∃ k9, v_X5_most_35 (nI n) (nI w) post k9 (1 : Int32) (2 : Int32) A L := by
  refine pk_loop (σ := Unit) (fun m i _ => v_X5_most_35 (nI n) (nI w) post m (nI (bM f i)) (nI i) A L) (fun i _ => 2 ≤ i) 101 2 () (by omega) (by omega) (fun m _ _ => ?_) (fun m i _ hi hi2 kk => ?_)
  · have hb := bM_in (f := f) 101
    unfold v_X5_most_35
    unfold mA at k
    refine pk_lt 100 101 (fun _ => ⟨fun c => ?_, fun c => ?_⟩) (fun c => absurd c (by omega))
    · rw [if_neg (fun e => c (by rw [e]; rfl))] at k
      refine c_drawsR hn1 hn hb.1 (by omega) ?_
      rw [(hf _ hb.1 (by omega)).1]
      exact k
    · have c : w = 0 := (nI_eq (a := w) (b := 0) (by omega) (by omega)).mp c
      rw [if_pos c] at k
      exact k
  · have hb := bM_in (f := f) i
    unfold v_X5_most_35
    have nxt : ∀ x3 : Int32, x3 = nI i + 1 → x3 = nI (i + 1) := fun x3 ex => by rw [ex]; exact nI_1 i
    refine pk_lt 100 i (fun c => absurd c (by omega)) (fun _ => c_drawsR hn1 hn (by omega) (by omega) (c_drawsR hn1 hn hb.1 (by omega) ?_))
    have f1 := hf i (by omega) (by omega)
    have f2 := hf (bM f i) hb.1 (by omega)
    rw [f1.1, f2.1]
    refine pk_le (f i) (f (bM f i)) (fun c x4 e4 => ?_) (fun c x4 e4 => ?_)
    · rw [nxt x4 e4]
      have := kk () (by omega)
      rw [bM_s, if_neg (by omega)] at this
      exact this
    · rw [nxt x4 e4]
      have := kk () (by omega)
      rw [bM_s, if_pos (by omega)] at this
      exact this
theorem r_most {A : xM} {L : xL} {ac mo nc n w : Nat} {cd : Nat → Nat} (hB : RB A ac mo nc cd) (h16 : ac < 16) (hm : mo ≤ 3000) (hnc : nc ≤ 10) (hcd : ∀ k, k < nc → 1 ≤ cd k ∧ cd k ≤ 100) (hn1 : 1 ≤ n) (hn : n ≤ 4) (hw : w < 2) {post : Int32 → xM → xL → Prop}
    (h : ∀ (A' : xM) (L' : xL), (A' 23 13 = 0 ∨ (A' 23 13 = A 23 13 ∧ A' 23 9 = A 23 9 ∧ L' = L)) → (∀ a b, a ≠ 27 → a ≠ 29 → a ≠ 30 → a ≠ 33 → ¬ (a = 23 ∧ (b = 13 ∨ b = 9)) → A' a b = A a b) → (∀ a b, a ≠ 28 → L' a b = L a b) → post (mA (fun v => dR ac mo nc cd n v (2 ^ nc)) w) A' L') : ∃ k9, v_X6_most_28 (nI n) (nI w) post k9 (0 : Int32) A L := by
  have h2nc : 2 ^ nc ≤ 1024 := Nat.le_trans (Nat.pow_le_pow_right (by decide) hnc) (by decide)
  refine pk_loop (σ := xM) (fun f i s => v_X6_most_28 (nI n) (nI w) post f (nI i) s L) (fun i s => (∀ a b, a ≠ 33 → s a b = A a b) ∧ ∀ v, v < i → s 33 v = 0) 101 0 A (by omega) ⟨fun _ _ _ => rfl, fun v hv => by omega⟩ (fun f s hI => ?_) (fun f i s hi hI kk => ?_)
  · obtain ⟨i1, i2⟩ := hI
    unfold v_X6_most_28
    refine pk_le 101 101 (fun _ => ?_) (fun c => absurd c (by omega))
    refine pk_loop (σ := xM × xL) (fun f i t => v_X6_most_49 (nI n) (nI w) post f (nI i) t.1 t.2)
      (fun i t => (t.1 23 13 = 0 ∨ (t.1 23 13 = A 23 13 ∧ t.1 23 9 = A 23 9 ∧ t.2 = L)) ∧ (∀ a b, a ≠ 27 → a ≠ 29 → a ≠ 30 → a ≠ 33 → ¬ (a = 23 ∧ (b = 13 ∨ b = 9)) → t.1 a b = A a b) ∧ (∀ a b, a ≠ 28 → t.2 a b = L a b) ∧ ∀ v, 1 ≤ v → v < 101 → t.1 33 v = nI (dR ac mo nc cd n v i)) (2 ^ nc) 0 (s, L) (Nat.zero_le _)
      ⟨Or.inr ⟨i1 _ _ (by omega), i1 _ _ (by omega), rfl⟩, fun a b _ _ _ q4 _ => i1 a b q4, fun _ _ _ => rfl, fun v h1 h2 => i2 v h2⟩ (fun f t hI => ?_) (fun f i t hi hI kk => ?_)
    · obtain ⟨j1, j2, j3, j4⟩ := hI
      unfold v_X6_most_49
      rw [j2 23 4 (by omega) (by omega) (by omega) (by omega) (by omega), hB.2.2.1, w_shl nc (by omega)]
      refine pk_le (2 ^ nc) (2 ^ nc) (fun _ => ?_) (fun c => absurd c (by omega))
      have K := h t.1 t.2 j1 j2 j3
      generalize hf9 : (fun v => dR ac mo nc cd n v (2 ^ nc)) = g at K
      have hg : ∀ v, 1 ≤ v → v < 101 → t.1 33 v = nI (g v) ∧ g v < 2 ^ 30 := fun v h1 h2 => by
        rw [j4 v h1 h2, ← hf9]
        have := dR_le (ac := ac) (mo := mo) (nc := nc) (cd := cd) (n := n) (v := v) (i := 2 ^ nc)
        exact ⟨rfl, by dsimp only; omega⟩
      refine pk_loop (σ := Unit) (fun m i _ => v_X6_most_123 (nI w) post m (nI (bM g i)) (nI i) t.1 t.2) (fun i _ => 2 ≤ i) 101 2 () (by omega) (by omega) (fun m _ _ => ?_) (fun m i _ hi hi2 kk => ?_)
      · have hb := bM_in (f := g) 101
        unfold v_X6_most_123
        unfold mA at K
        refine pk_le 101 101 (fun _ => ⟨fun c => ?_, fun c => ?_⟩) (fun c => absurd c (by omega))
        · rw [if_neg (fun e => c (by rw [e]; rfl))] at K
          refine ⟨pk_in (bM g 101) 101 (by omega), ?_⟩
          rw [nI_clamp (show bM g 101 < 2 ^ 31 by omega), (hg _ hb.1 (by omega)).1]
          exact K
        · have c : w = 0 := (nI_eq (a := w) (b := 0) (by omega) (by omega)).mp c
          rw [if_pos c] at K
          exact K
      · have hb := bM_in (f := g) i
        unfold v_X6_most_123
        have nxt : ∀ x3 : Int32, x3 = nI i + 1 → x3 = nI (i + 1) := fun x3 ex => by rw [ex]; exact nI_1 i
        refine pk_le 101 i (fun c => absurd c (by omega)) (fun _ => ⟨pk_in i 101 (by omega), pk_in (bM g i) 101 (by omega), ?_⟩)
        have f1 := hg i (by omega) (by omega)
        have f2 := hg (bM g i) hb.1 (by omega)
        rw [nI_clamp (show bM g i < 2 ^ 31 by omega), nI_clamp (show i < 2 ^ 31 by omega), f1.1, f2.1]
        refine pk_le (g i) (g (bM g i)) (fun c x4 e4 => ?_) (fun c x4 e4 => ?_)
        · rw [nxt x4 e4]
          have := kk () (by omega)
          rw [bM_s, if_neg (by omega)] at this
          exact this
        · rw [nxt x4 e4]
          have := kk () (by omega)
          rw [bM_s, if_pos (by omega)] at this
          exact this
    · obtain ⟨j1, j2, j3, j4⟩ := hI
      unfold v_X6_most_49
      rw [j2 23 4 (by omega) (by omega) (by omega) (by omega) (by omega), hB.2.2.1, w_shl nc (by omega)]
      have nxt : ∀ x3 : Int32, x3 = nI i + 1 → x3 = nI (i + 1) := fun x3 ex => by rw [ex]; exact nI_1 i
      have hpb := pb_12 i
      refine pk_le (2 ^ nc) i (fun c => absurd c (by omega)) (fun _ => s_bits (by omega) ⟨fun c x6 e6 => ?_, fun c => ?_⟩)
      · rw [nxt x6 e6]
        have c : pb i ≠ n := fun e => c (by rw [e])
        exact kk t ⟨j1, j2, j3, fun v h1 h2 => by rw [dR_s, if_neg (fun h => c h.1)]; exact j4 v h1 h2⟩
      · have c : pb i = n := (nI_eq (by omega) (by omega)).mp c
        refine r_drawn (hB.of j2) h16 hm hnc hcd hn hi c (fun A5 L6 g1 g2 g3 g4 => ?_)
        refine pk_loop (σ := xM) (fun f' x u => v_X6_most_75 (nI n) (nI w) (nI i) (fun x3 A L => v_X6_most_49 (nI n) (nI w) post f x3 A L) post f' (nI x) u L6)
          (fun x u => 1 ≤ x ∧ (∀ a b, a ≠ 33 → u a b = A5 a b) ∧ ∀ v, 1 ≤ v → v < 101 → u 33 v = nI (dR ac mo nc cd n v (if v < x then i + 1 else i))) 101 1 A5 (by omega) ⟨Nat.le_refl _, fun _ _ _ => rfl, fun v h1 h2 => by rw [if_neg (by omega), g3 33 v (by omega) (by omega) (by omega) (by omega)]; exact j4 v h1 h2⟩ (fun f' u hI => ?_) (fun f' x u hx hI k2 => ?_)
        · obtain ⟨-, l1, l2⟩ := hI
          unfold v_X6_most_75
          refine pk_le 101 101 (fun _ x3 e3 => ?_) (fun c => absurd c (by omega))
          rw [nxt x3 e3]
          refine kk (u, L6) ⟨Or.inl ((l1 _ _ (by omega)).trans g2), fun a b q1 q2 q3 q4 q5 => (l1 a b q4).trans ((g3 a b q1 q2 q3 q5).trans (j2 a b q1 q2 q3 q4 q5)), fun a b q => (g4 a b q).trans (j3 a b q), fun v h1 h2 => ?_⟩
          show u 33 v = _
          rw [l2 v h1 h2, if_pos h2]
        · obtain ⟨hx1, l1, l2⟩ := hI
          unfold v_X6_most_75
          have nxx : ∀ x3 : Int32, x3 = nI x + 1 → x3 = nI (x + 1) := fun x3 ex => by rw [ex]; exact nI_1 x
          have g1' : RR (wR (dl cd i nc).1 ac mo (dl cd i nc).2) (dl cd i nc).1 u L6 := ⟨g1.1, by rw [l1 23 9 (by omega)]; exact g1.2.1, g1.2.2⟩
          have st : dR ac mo nc cd n x (i + 1) = dR ac mo nc cd n x i + if rD ac mo nc cd i x = true then 1 else 0 := by
            rw [dR_s]
            simp [c]
          have hux := l2 x hx1 hx
          rw [if_neg (by omega)] at hux
          have put : ∀ A6 : xM, A6 = xu u 33 x (nI (dR ac mo nc cd n x (i + 1))) → v_X6_most_75 (nI n) (nI w) (nI i) (fun x3 A L => v_X6_most_49 (nI n) (nI w) post f x3 A L) post f' (nI (x + 1)) A6 L6 := fun A6 e6 => by
            refine k2 A6 ⟨by omega, fun a b hab => by rw [e6]; unfold xu; rw [if_neg (by omega)]; exact l1 a b hab, fun v h1 h2 => ?_⟩
            rw [e6]; unfold xu
            by_cases e : v = x
            · subst e; rw [if_pos ⟨rfl, rfl⟩, if_pos (by omega)]
            · rw [if_neg (by omega), l2 v h1 h2]
              by_cases c2 : v < x
              · rw [if_pos c2, if_pos (by omega)]
              · rw [if_neg c2, if_neg (by omega)]
          refine pk_le 101 x (fun c => absurd c (by omega)) (fun _ => ⟨pk_in x 101 hx, r_reach g1' hx1 (by omega) ?_⟩)
          rw [nI_clamp (show x < 2 ^ 31 by omega), hux]
          refine ⟨fun c3 A6 e6 x4 e4 => ?_, fun c3 A6 e6 x4 e4 => ?_⟩
          · rw [nxx x4 e4]
            have c3 : rD ac mo nc cd i x = false := bI_0.1 c3
            refine put A6 ?_
            rw [e6, st, c3, Int32.add_zero]
            rfl
          · rw [nxx x4 e4]
            have c3 : rD ac mo nc cd i x = true := bI_0.2 c3
            refine put A6 ?_
            rw [e6, st, c3, nI_1]
            rfl
  · obtain ⟨i1, i2⟩ := hI
    unfold v_X6_most_28
    refine pk_le 101 i (fun c => absurd c (by omega)) (fun _ => ⟨pk_in i 101 hi, fun A3 e3 x3 ex3 => ?_⟩)
    have : x3 = nI (i + 1) := by rw [ex3]; exact nI_1 i
    subst this
    rw [nI_clamp (show i < 2 ^ 31 by omega)] at e3
    refine kk A3 ⟨fun a b hab => by rw [e3]; unfold xu; rw [if_neg (by omega)]; exact i1 a b hab, fun v hv => ?_⟩
    rw [e3]; unfold xu
    by_cases e : v = i
    · rw [if_pos ⟨rfl, e⟩]
    · rw [if_neg (by omega)]; exact i2 v (by omega)
