/-! draws: the class -/
def dl (cd : Nat → Nat) (d : Nat) : Nat → Nat × (Nat → Nat)
  | 0 => (0, fun _ => 0)
  | k + 1 => if d / 2 ^ k % 2 = 1 then ((dl cd d k).1 + 1, uF (dl cd d k).2 (dl cd d k).1 (cd k)) else dl cd d k
theorem dl_s {cd : Nat → Nat} {d k : Nat} : dl cd d (k + 1) = if d / 2 ^ k % 2 = 1 then ((dl cd d k).1 + 1, uF (dl cd d k).2 (dl cd d k).1 (cd k)) else dl cd d k := rfl
theorem dl_pc {cd : Nat → Nat} {d : Nat} : ∀ k, (dl cd d k).1 = pc d k
  | 0 => rfl
  | k + 1 => by
    have h := dl_pc (cd := cd) (d := d) k
    have e : pc d (k + 1) = pc d k + d / 2 ^ k % 2 := rfl
    have := Nat.mod_lt (d / 2 ^ k) (show 0 < 2 by decide)
    unfold dl
    split
    · rename_i c
      rw [e, c, ← h]
    · rw [e, h]; omega
theorem dl_in {cd : Nat → Nat} {d : Nat} : ∀ k, (∀ j, j < k → 1 ≤ cd j ∧ cd j ≤ 100) → ∀ j, j < (dl cd d k).1 → 1 ≤ (dl cd d k).2 j ∧ (dl cd d k).2 j ≤ 100
  | 0, _, j, hj => by
    have hj : j < 0 := hj
    omega
  | k + 1, h, j, hj => by
    have ih := dl_in (cd := cd) (d := d) k (fun j hj => h j (by omega))
    unfold dl at hj ⊢
    split
    · rename_i c
      rw [if_pos c] at hj
      have hj : j < (dl cd d k).1 + 1 := hj
      show 1 ≤ uF (dl cd d k).2 (dl cd d k).1 (cd k) j ∧ uF (dl cd d k).2 (dl cd d k).1 (cd k) j ≤ 100
      unfold uF
      split
      · exact h k (by omega)
      · exact ih j (by omega)
    · rename_i c
      rw [if_neg c] at hj
      exact ih j hj
theorem pc_pb {d k : Nat} (hd : d < 1024) (hk : k ≤ 10) : pc d k ≤ pb d := by
  rw [← pb_10 d hd]
  have := fb_sm_mono (fun k => d / 2 ^ k % 2) k (10 - k)
  rw [show k + (10 - k) = 10 by omega] at this
  exact this
def rD (ac mo nc : Nat) (cd : Nat → Nat) (d v : Nat) : Bool := decide (0 < aS (wR (dl cd d nc).1 ac mo (dl cd d nc).2) (2 ^ (dl cd d nc).1) v)
def dC (n i : Nat) : Nat := fb_sm (fun d => if pb d = n then 1 else 0) i
def dR (ac mo nc : Nat) (cd : Nat → Nat) (n v i : Nat) : Nat := fb_sm (fun d => if pb d = n ∧ rD ac mo nc cd d v = true then 1 else 0) i
theorem dC_le {n i : Nat} : dC n i ≤ i := by
  have := fb_sm_bound (f := fun d => if pb d = n then 1 else 0) (c := 1) (n := i) (fun k _ => by split <;> omega)
  unfold dC
  omega
theorem dR_le {ac mo nc : Nat} {cd : Nat → Nat} {n v i : Nat} : dR ac mo nc cd n v i ≤ i := by
  have := fb_sm_bound (f := fun d => if pb d = n ∧ rD ac mo nc cd d v = true then 1 else 0) (c := 1) (n := i) (fun k _ => by split <;> omega)
  unfold dR
  omega
theorem bit_tb {d k : Nat} : d.testBit k = decide (d / 2 ^ k % 2 = 1) := Nat.testBit_eq_decide_div_mod_eq
theorem c_draw {A : xM} {L : xL} {n1 ac mo nc n d : Nat} {it1 cd : Nat → Nat} {ch1 : Nat} (H : HI 1 A L n1 ac mo it1 ch1) (hac : A 1 0 = nI ac) (hmo : A 1 1 = nI mo) (hm : mo ≤ 3000) (hc : A 14 2 = nI nc) (hnc : nc ≤ 10) (hcd : ∀ k, k < nc → A 15 k = nI (cd k) ∧ 1 ≤ cd k ∧ cd k ≤ 100) (hn1 : 1 ≤ n) (hn : n ≤ 4) (hd : d < 2 ^ nc) (hp : pb d = n) {post : xM → xL → Prop}
    (h : ∀ (A' : xM) (L' : xL) (n' : Nat) (it' : Nat → Nat), HI 1 A' L' n' ac mo it' 0 → (∀ v, 1 ≤ v → v < 3001 → A' (196 + n) v = A (196 + n) v + bI (rD ac mo nc cd d v)) → (∀ a b, ¬ hT 1 a → a ≠ 196 + n → A' a b = A a b) → (∀ a b, ¬ hL 1 a → L' a b = L a b) → post A' L') : v_X0_countDraw (196 + n) (nI d) A L post := by
  have hd10 : d < 1024 := Nat.lt_of_lt_of_le hd (Nat.le_trans (Nat.pow_le_pow_right (by decide) hnc) (by decide))
  have hT14 : ¬ hT 1 14 := by unfold hT; omega
  have hT15 : ¬ hT 1 15 := by unfold hT; omega
  have hT1 : ¬ hT 1 1 := by unfold hT; omega
  have hTg : ¬ hT 1 (196 + n) := by unfold hT; omega
  unfold v_X0_countDraw
  refine pk_loop (σ := xM) (fun f i s => v_X0_countDraw_5 (196 + n) (nI d) post f (nI (pc d i)) (nI i) s L)
    (fun i s => ∃ m it ch, HI 1 s L m ac mo it ch ∧ HG 1 A L s L ∧ pc d i ≤ m ∧ ∀ j, j < pc d i → it j = (dl cd d i).2 j) nc 0 A (by omega) ⟨n1, it1, ch1, H, HG.rf, Nat.zero_le _, fun j hj => by
      have hj : j < 0 := hj
      omega⟩ (fun f s hI => ?_) (fun f i s hi hI kk => ?_)
  · obtain ⟨m, it, ch, i1, i2, i3, i4⟩ := hI
    unfold v_X0_countDraw_5
    rw [i2.1 14 2 hT14, hc]
    refine pk_le nc nc (fun _ => ?_) (fun c => absurd c (by omega))
    unfold v_X0_countDraw_54
    refine s_shorten (by decide) i1 i3 (fun A1 c1 j1 g1 => ?_)
    have i2 := i2.tr g1
    have j1 := j1.items i4
    refine s_refresh (by decide) j1 (by rw [i2.1 1 0 hT1]; exact hac) (by rw [i2.1 1 1 hT1]; exact hmo) hm (fun A3 L3 j3 g3 => ?_)
    have i2 := i2.tr g3
    obtain ⟨fl, nf, V⟩ := j3.hv
    have hpw : 2 ^ pc d nc ≤ 16 := HI.pow (q := 1) (by decide) j3.1
    have eq0 : ∀ v, rD ac mo nc cd d v = decide (0 < aS (wR (pc d nc) ac mo (dl cd d nc).2) (64 - 48 * 1) v) := fun v => by
      unfold rD
      rw [dl_pc, aS_R (S := 64 - 48 * 1) hpw]
    refine pk_loop (σ := xM) (fun f i s => v_X0_countDraw_72 (196 + n) post f (nI i) s L3)
      (fun i s => 1 ≤ i ∧ (∀ a b, a ≠ 196 + n → s a b = A3 a b) ∧ ∀ v, v < 3001 → s (196 + n) v = if 1 ≤ v ∧ v < i then A3 (196 + n) v + bI (rD ac mo nc cd d v) else A3 (196 + n) v) 3001 1 A3 (by omega) ⟨Nat.le_refl _, fun _ _ _ => rfl, fun v hv => by rw [if_neg (by omega)]⟩ (fun f s hI => ?_) (fun f i s hi hI kk => ?_)
    · obtain ⟨-, k1, k2⟩ := hI
      unfold v_X0_countDraw_72
      refine pk_lt 3000 3001 (fun _ => h s L3 (pc d nc) (dl cd d nc).2 (j3.mem (fun a b hab => k1 a b (fun e => hTg (by rw [← e]; exact hab))) (fun _ _ _ => rfl)) (fun v h1 h2 => ?_) (fun a b h1 h2 => ?_) (fun a b h1 => i2.2 a b h1)) (fun c => absurd c (by omega))
      · rw [k2 v h2, if_pos ⟨h1, h2⟩, i2.1 _ _ hTg]
      · rw [k1 a b h2]; exact i2.1 a b h1
    · obtain ⟨hi1, k1, k2⟩ := hI
      unfold v_X0_countDraw_72
      have Vs : HV 1 s L3 (wR (pc d nc) ac mo (dl cd d nc).2) fl nf := V.mem (fun a b hab => k1 a b (fun e => hTg (by unfold hT; omega))) (fun _ _ _ => rfl)
      refine pk_lt 3000 i (fun c => absurd c (by omega)) (fun _ => pk_le 3001 i (fun c => absurd c (by omega)) (fun _ => c_reach Vs hi1 hi ?_))
      rw [← eq0 i]
      have nxt : ∀ x3 : Int32, x3 = nI i + 1 → x3 = nI (i + 1) := fun x3 ex => by rw [ex]; exact nI_1 i
      refine ⟨fun c x4 e4 => ?_, fun c => ⟨pk_in i 3001 hi, fun A7 e7 x4 e4 => ?_⟩⟩
      · rw [nxt x4 e4]
        refine kk s ⟨by omega, k1, fun v hv => ?_⟩
        rw [k2 v hv]
        by_cases e : v = i
        · subst e
          rw [if_neg (by omega), if_pos (by omega), c, Int32.add_zero]
        · by_cases c2 : 1 ≤ v ∧ v < i
          · rw [if_pos c2, if_pos (by omega)]
          · rw [if_neg c2, if_neg (by omega)]
      · rw [nxt x4 e4]
        rw [nI_clamp (show i < 2 ^ 31 by omega), k2 i hi, if_neg (by omega)] at e7
        refine kk A7 ⟨by omega, fun a b hab => by rw [e7]; unfold xu; rw [if_neg (by omega)]; exact k1 a b hab, fun v hv => ?_⟩
        rw [e7]; unfold xu
        by_cases e : v = i
        · subst e
          rw [if_pos ⟨rfl, rfl⟩, if_pos (by omega), bI_0.2 c]
          rfl
        · rw [if_neg (by omega), k2 v hv]
          by_cases c2 : 1 ≤ v ∧ v < i
          · rw [if_pos c2, if_pos (by omega)]
          · rw [if_neg c2, if_neg (by omega)]
  · obtain ⟨m, it, ch, i1, i2, i3, i4⟩ := hI
    unfold v_X0_countDraw_5
    rw [i2.1 14 2 hT14, hc]
    have epc : pc d (i + 1) = pc d i + d / 2 ^ i % 2 := rfl
    have hmod := Nat.mod_lt (d / 2 ^ i) (show 0 < 2 by decide)
    refine pk_le nc i (fun c => absurd c (by omega)) (fun _ => pk_le 10 i (fun c => absurd c (by omega)) (fun _ => ?_))
    rw [w_shl i (by omega), fa_bit (by omega), bit_tb]
    have nxt : ∀ x3 : Int32, x3 = nI i + 1 → x3 = nI (i + 1) := fun x3 ex => by rw [ex]; exact nI_1 i
    refine ⟨fun c x4 e4 => ?_, fun c => ⟨pk_in i 10 (by omega), ?_⟩⟩
    · have c : ¬ d / 2 ^ i % 2 = 1 := of_decide_eq_false c
      rw [nxt x4 e4]
      have e0 : pc d (i + 1) = pc d i := by rw [epc]; omega
      have := kk s ⟨m, it, ch, i1, i2, by omega, fun j hj => by
        rw [i4 j (by omega), dl_s, if_neg c]⟩
      rw [e0] at this
      exact this
    · have c : d / 2 ^ i % 2 = 1 := by
        by_cases c2 : d / 2 ^ i % 2 = 1
        · exact c2
        · exact absurd (decide_eq_false c2) c
      have hle := pc_pb (k := i + 1) hd10 (by omega)
      have hck := hcd i hi
      rw [nI_clamp (show i < 2 ^ 31 by omega), i2.1 15 i hT15, hck.1]
      refine s_place (by decide) i1 i3 (by omega) hck.2.1 hck.2.2 (fun A6 ch6 j6 g6 x3 e3 x4 e4 => ?_)
      rw [nxt x4 e4]
      have e3 : x3 = nI (pc d i + 1) := by rw [e3]; exact nI_1 _
      have e1 : pc d (i + 1) = pc d i + 1 := by rw [epc]; omega
      have := kk A6 ⟨_, _, _, j6, i2.tr g6, by split <;> omega, fun j hj => by
        unfold dl
        rw [if_pos c]
        show uF it (pc d i) (cd i) j = uF (dl cd d i).2 (dl cd d i).1 (cd i) j
        rw [dl_pc]
        unfold uF
        split
        · rfl
        · exact i4 j (by omega)⟩
      rw [e1] at this
      rw [e3]
      exact this
/-- what the box knows of its draws -/
def BX (A : xM) (ac mo nc : Nat) (cd : Nat → Nat) (cm : Nat) : Prop := A 14 5 = nI cm ∧ cm < 32 ∧ ∀ m, 1 ≤ m → m ≤ 4 → cm.testBit m = true → A 17 m = nI (dC m (2 ^ nc)) ∧ ∀ v, 1 ≤ v → v < 3001 → A (196 + m) v = nI (dR ac mo nc cd m v (2 ^ nc))
theorem c_draws {A : xM} {L : xL} {n1 ac mo nc n cm : Nat} {it1 cd : Nat → Nat} {ch1 : Nat} (H : HI 1 A L n1 ac mo it1 ch1) (hac : A 1 0 = nI ac) (hmo : A 1 1 = nI mo) (hm : mo ≤ 3000) (hc : A 14 2 = nI nc) (hnc : nc ≤ 10) (hcd : ∀ k, k < nc → A 15 k = nI (cd k) ∧ 1 ≤ cd k ∧ cd k ≤ 100) (hB : BX A ac mo nc cd cm) (hn1 : 1 ≤ n) (hn : n ≤ 4) {post : xM → xL → Prop}
    (h : ∀ (A' : xM) (L' : xL) (n' : Nat) (it' : Nat → Nat) (ch' cm' : Nat), HI 1 A' L' n' ac mo it' ch' → BX A' ac mo nc cd cm' → cm'.testBit n = true → (∀ a b, ¬ hT 1 a → ¬ (a = 14 ∧ b = 5) → a ≠ 17 → ¬ (196 ≤ a ∧ a ≤ 200) → A' a b = A a b) → (∀ a b, ¬ hL 1 a → L' a b = L a b) → post A' L') : v_X0_countDraws (nI n) A L post := by
  obtain ⟨b1, b2, b3⟩ := id hB
  have h2nc : 2 ^ nc ≤ 1024 := Nat.le_trans (Nat.pow_le_pow_right (by decide) hnc) (by decide)
  unfold v_X0_countDraws
  refine pk_lt n 1 (fun c => absurd c (by omega)) (fun _ => pk_lt 4 n (fun c => absurd c (by omega)) (fun _ => ?_))
  rw [b1, w_shl n (by omega), fa_bit (by omega), fa_or]
  refine ⟨fun c A4 e4 => ⟨pk_in n 5 (by omega), fun A6 e6 => ?_⟩, fun c => ?_⟩
  · rw [nI_clamp (show n < 2 ^ 31 by omega)] at e6
    have fr6 : ∀ a b, ¬ (a = 14 ∧ b = 5) → ¬ (a = 17 ∧ b = n) → A6 a b = A a b := fun a b c1 c2 => by
      rw [e6, e4]; unfold xu
      rw [if_neg c2, if_neg c1]
    have a6 : A6 17 n = 0 := by rw [e6]; simp [xu]
    have a6c : A6 14 5 = nI (cm ||| 2 ^ n) := by rw [e6, e4]; simp [xu]
    refine pk_loop (σ := xM) (fun f i s => v_X0_countDraws_43 (nI n) post f (nI i) s L) (fun i s => 1 ≤ i ∧ (∀ a b, a ≠ 196 + n → s a b = A6 a b) ∧ ∀ v, 1 ≤ v → v < i → s (196 + n) v = 0) 3001 1 A6 (by omega) ⟨Nat.le_refl _, fun _ _ _ => rfl, fun v h1 h2 => by omega⟩ (fun f s hI => ?_) (fun f i s hi hI kk => ?_)
    · obtain ⟨-, i1, i2⟩ := hI
      unfold v_X0_countDraws_43
      refine pk_lt 3000 3001 (fun _ => ?_) (fun c => absurd c (by omega))
      refine pk_loop (σ := xM × xL) (fun f i t => v_X0_countDraws_67 (nI n) post f (nI i) t.1 t.2)
        (fun i t => 1 ≤ i ∧ (∃ m it ch, HI 1 t.1 t.2 m ac mo it ch) ∧ t.1 17 n = nI (dC n i) ∧ (∀ v, 1 ≤ v → v < 3001 → t.1 (196 + n) v = nI (dR ac mo nc cd n v i)) ∧ (∀ a b, ¬ hT 1 a → ¬ (a = 17 ∧ b = n) → a ≠ 196 + n → t.1 a b = A6 a b) ∧ ∀ a b, ¬ hL 1 a → t.2 a b = L a b) (2 ^ nc) 1 (s, L) Nat.one_le_two_pow
        ⟨Nat.le_refl _, ⟨n1, it1, ch1, H.mem (fun a b hab => ?_) (fun _ _ _ => rfl)⟩, ?_, fun v h1 h2 => ?_, fun a b h1 h2 h3 => i1 a b h3, fun _ _ _ => rfl⟩ (fun f t hI => ?_) (fun f i t hi hI kk => ?_)
      · have : a ≠ 14 ∧ a ≠ 17 ∧ a ≠ 196 + n := by unfold hT at hab; omega
        show s a b = _
        rw [i1 a b this.2.2, fr6 a b (by omega) (by omega)]
      · show s 17 n = _
        rw [i1 17 n (by omega), a6]
        show 0 = nI (0 + if pb 0 = n then 1 else 0)
        rw [if_neg (by rw [show pb 0 = 0 by decide]; omega)]
        rfl
      · show s _ v = _
        rw [i2 v h1 h2]
        show 0 = nI (0 + if pb 0 = n ∧ rD ac mo nc cd 0 v = true then 1 else 0)
        rw [if_neg (by rw [show pb 0 = 0 by decide]; omega)]
        rfl
      · obtain ⟨-, ⟨m, it, ch, j1⟩, j2, j3, j4, j5⟩ := hI
        unfold v_X0_countDraws_67
        rw [j4 14 2 (by unfold hT; omega) (by omega) (by omega), fr6 _ _ (by omega) (by omega), hc, w_shl nc (by omega)]
        refine pk_le (2 ^ nc) (2 ^ nc) (fun _ => h t.1 t.2 m it ch (cm ||| 2 ^ n) j1 ⟨?_, ?_, fun k k1 k2 k3 => ?_⟩ (by simp) (fun a b h1 h2 h3 h4 => ?_) j5) (fun c => absurd c (by omega))
        · rw [j4 14 5 (by unfold hT; omega) (by omega) (by omega)]; exact a6c
        · exact Nat.or_lt_two_pow (n := 5) b2 (Nat.pow_lt_pow_right (by decide) (by omega))
        · by_cases e : k = n
          · subst e; exact ⟨j2, j3⟩
          · rw [fb_bit_set] at k3
            simp [e] at k3
            have := b3 k k1 k2 k3
            refine ⟨?_, fun v h1 h2 => ?_⟩
            · rw [j4 17 k (by unfold hT; omega) (by omega) (by omega), fr6 _ _ (by omega) (by omega)]; exact this.1
            · rw [j4 (196 + k) v (by unfold hT; omega) (by omega) (by omega), fr6 _ _ (by omega) (by omega)]; exact this.2 v h1 h2
        · rw [j4 a b h1 (by omega) (by omega), fr6 _ _ h2 (by omega)]
      · obtain ⟨hi1, ⟨m, it, ch, j1⟩, j2, j3, j4, j5⟩ := hI
        unfold v_X0_countDraws_67
        have t14 : t.1 14 2 = nI nc := by rw [j4 14 2 (by unfold hT; omega) (by omega) (by omega), fr6 _ _ (by omega) (by omega), hc]
        rw [t14, w_shl nc (by omega)]
        have nxt : ∀ x3 : Int32, x3 = nI i + 1 → x3 = nI (i + 1) := fun x3 ex => by rw [ex]; exact nI_1 i
        have eC : dC n (i + 1) = dC n i + if pb i = n then 1 else 0 := rfl
        have eR : ∀ v, dR ac mo nc cd n v (i + 1) = dR ac mo nc cd n v i + if pb i = n ∧ rD ac mo nc cd i v = true then 1 else 0 := fun v => rfl
        have pb4 : pb i < 2 ^ 31 := by
          have := fb_sm_bound (f := fun k => i / 2 ^ k % 2) (c := 1) (n := 12) (fun k _ => by have := Nat.mod_lt (i / 2 ^ k) (show 0 < 2 by decide); omega)
          unfold pb pc
          omega
        refine pk_le (2 ^ nc) i (fun c => absurd c (by omega)) (fun _ => s_bc (by omega) ⟨fun c x2 e2 => ?_, fun c => ⟨pk_in n 5 (by omega), fun A7 e7 => ?_⟩⟩)
        · rw [nxt x2 e2]
          have c : pb i ≠ n := fun e => c (by rw [e])
          refine kk t ⟨by omega, ⟨m, it, ch, j1⟩, ?_, fun v h1 h2 => ?_, j4, j5⟩
          · rw [eC, if_neg c]; exact j2
          · rw [eR, if_neg (fun h => c h.1)]; exact j3 v h1 h2
        · have c : pb i = n := (nI_eq pb4 (by omega)).mp c
          rw [nI_clamp (show n < 2 ^ 31 by omega), j2, nI_1] at e7
          rw [nI_clamp (show n < 2 ^ 31 by omega)]
          have fr7 : ∀ a b, ¬ (a = 17 ∧ b = n) → A7 a b = t.1 a b := fun a b c1 => by
            rw [e7]; unfold xu
            rw [if_neg c1]
          have fr7' : ∀ a b, ¬ hT 1 a → ¬ (a = 17 ∧ b = n) → a ≠ 196 + n → A7 a b = A6 a b := fun a b c1 c2 c3 => (fr7 a b c2).trans (j4 a b c1 c2 c3)
          have at7 : A7 17 n = nI (dC n i + 1) := by rw [e7]; simp [xu]
          refine c_draw (j1.mem (fun a b hab => fr7 a b (fun e => by unfold hT at hab; omega)) (fun _ _ _ => rfl)) (by rw [fr7' 1 0 (by unfold hT; omega) (by omega) (by omega), fr6 _ _ (by omega) (by omega)]; exact hac) (by rw [fr7' 1 1 (by unfold hT; omega) (by omega) (by omega), fr6 _ _ (by omega) (by omega)]; exact hmo) hm (by rw [fr7 _ _ (by omega)]; exact t14) hnc (fun k hk => by rw [fr7' 15 k (by unfold hT; omega) (by omega) (by omega), fr6 _ _ (by omega) (by omega)]; exact hcd k hk) hn1 hn hi c (fun A8 L8 m8 it8 v1 v2 v3 v4 x2 e2 => ?_)
          rw [nxt x2 e2]
          refine kk (A8, L8) ⟨by omega, ⟨m8, it8, 0, v1⟩, ?_, fun v h1 h2 => ?_, fun a b h1 h2 h3 => ?_, fun a b hab => (v4 a b hab).trans (j5 a b hab)⟩
          · show A8 17 n = _
            rw [v3 17 n (by unfold hT; omega) (by omega), at7, eC, if_pos c]
          · show A8 (196 + n) v = _
            rw [v2 v h1 h2, fr7 _ _ (by omega), j3 v h1 h2, eR]
            cases hr : rD ac mo nc cd i v
            · simp [bI]
            · simp only [c, and_self, if_true]
              exact nI_1 _
          · show A8 a b = _
            rw [v3 a b h1 h3]; exact fr7' a b h1 h2 h3
    · obtain ⟨hi1, i1, i2⟩ := hI
      unfold v_X0_countDraws_43
      refine pk_lt 3000 i (fun c => absurd c (by omega)) (fun _ => ⟨pk_in n 5 (by omega), pk_in i 3001 hi, fun A4 e4 x2 e2 => ?_⟩)
      have : x2 = nI (i + 1) := by rw [e2]; exact nI_1 i
      subst this
      rw [nI_clamp (show n < 2 ^ 31 by omega), nI_clamp (show i < 2 ^ 31 by omega)] at e4
      refine kk A4 ⟨by omega, fun a b hab => by rw [e4]; unfold xu; rw [if_neg (by omega)]; exact i1 a b hab, fun v h1 h2 => ?_⟩
      rw [e4]; unfold xu
      by_cases e : v = i
      · rw [if_pos ⟨rfl, e⟩]
      · rw [if_neg (by omega)]; exact i2 v h1 (by omega)
  · have c : cm.testBit n = true := by
      cases hb : cm.testBit n
      · exact absurd hb c
      · rfl
    exact h A L n1 it1 ch1 cm H hB c (fun _ _ _ _ _ _ => rfl) (fun _ _ _ => rfl)
theorem c_drawsOf {A : xM} {L : xL} {n : Nat} (hn1 : 1 ≤ n) (hn : n ≤ 4) {post : Int32 → Prop} (h : post (A 17 n)) : v_X0_drawsOf (nI n) A L post := by
  unfold v_X0_drawsOf
  refine pk_lt n 1 (fun c => absurd c (by omega)) (fun _ => pk_le n 4 (fun _ => ⟨pk_in n 5 (by omega), ?_⟩) (fun c => absurd c (by omega)))
  rw [nI_clamp (show n < 2 ^ 31 by omega)]
  exact h
theorem c_drawsR {A : xM} {L : xL} {n v : Nat} (hn1 : 1 ≤ n) (hn : n ≤ 4) (h1 : 1 ≤ v) (h2 : v < 3001) {post : Int32 → Prop} (h : post (A (196 + n) v)) : v_X0_drawsReaching (nI n) (nI v) A L post := by
  unfold v_X0_drawsReaching
  refine pk_lt n 1 (fun c => absurd c (by omega)) (fun _ => pk_lt 4 n (fun c => absurd c (by omega)) (fun _ => pk_lt v 1 (fun c => absurd c (by omega)) (fun _ => pk_le v 3000 (fun _ => ⟨pk_in n 5 (by omega), pk_in v 3001 h2, ?_⟩) (fun c => absurd c (by omega)))))
  rw [nI_clamp (show n < 2 ^ 31 by omega), nI_clamp (show v < 2 ^ 31 by omega)]
  exact h
