/-! the text of a way -/
theorem ff_yes {p : Nat → Bool} {n i : Nat} (hi : i < n) (h : ∀ j, j < i → p j = false) (hp : p i = true) : fa_first p n = i := by
  have h2 := fa_first_no p n
  have h3 := fa_first_yes p n
  rcases Nat.lt_trichotomy (fa_first p n) i with c | c | c
  · have := h3 (by omega); rw [h _ c] at this; exact absurd this (by decide)
  · exact c
  · have := h2 i c; rw [hp] at this; exact absurd this (by decide)
theorem ff_no {p : Nat → Bool} {n : Nat} (h : ∀ j, j < n → p j = false) : fa_first p n = n := by
  have h1 := fa_first_le p n
  have h3 := fa_first_yes p n
  refine Nat.le_antisymm h1 (Nat.le_of_not_lt fun c => ?_)
  have := h3 c
  rw [h _ c] at this
  exact absurd this (by decide)
def mk (act : Nat) : Nat := if act = 0 then 43 else if act = 1 then 45 else if act = 2 then 42 else 47
def oth (act x v : Nat) : Nat := if act = 0 then v - x else if act = 1 then x - v else if act = 2 then (if v % x = 0 then v / x else 0) else (if x % v = 0 then x / v else 0)
theorem oth_lt {act x v : Nat} (hx : x < 3001) (hv : v < 3001) : oth act x v < 3001 := by
  have a1 := Nat.div_le_self v x
  have a2 := Nat.div_le_self x v
  unfold oth
  repeat' split
  all_goals omega
def cnd (P : Nat → Nat → Nat) (set v left act x : Nat) : Bool := decide (1 ≤ x) && (decide (0 < P left x) && decide (0 < P (set ^^^ left) (oth act x v)))
def okA (ac set left act : Nat) : Bool := wpB set left && (ac.testBit act && (wfB set left || (decide (act = 1) || decide (act = 3))))
def fx (P : Nat → Nat → Nat) (ac set v left act : Nat) : Nat := if okA ac set left act = true ∧ fa_first (cnd P set v left act) 3001 < 3001 then fa_first (cnd P set v left act) 3001 else 0
theorem fx_pos {P : Nat → Nat → Nat} {ac set v left act : Nat} (h : fx P ac set v left act ≠ 0) : okA ac set left act = true ∧ fx P ac set v left act < 3001 ∧ cnd P set v left act (fx P ac set v left act) = true := by
  unfold fx at h ⊢
  split at h
  · rename_i c
    rw [if_pos c]
    exact ⟨c.1, c.2, fa_first_yes _ _ c.2⟩
  · exact absurd rfl h
theorem fx_0 {P : Nat → Nat → Nat} {ac set v left act : Nat} (h : okA ac set left act = true → ∀ x, 1 ≤ x → x < 3001 → cnd P set v left act x = false) : fx P ac set v left act = 0 := by
  unfold fx
  split
  · rename_i c
    have := fa_first_yes _ _ c.2
    by_cases z : 1 ≤ fa_first (cnd P set v left act) 3001
    · rw [h c.1 _ z c.2] at this; exact absurd this (by decide)
    · omega
  · rfl
theorem fx_1 {P : Nat → Nat → Nat} {ac set v left act x : Nat} (h : okA ac set left act = true) (hx : x < 3001) (hc : cnd P set v left act x = true) (hl : ∀ y, 1 ≤ y → y < x → cnd P set v left act y = false) : fx P ac set v left act = x := by
  have e := ff_yes (p := cnd P set v left act) hx (fun j hj => by
    by_cases z : 1 ≤ j
    · exact hl j z hj
    · unfold cnd; rw [decide_eq_false z]; rfl) hc
  unfold fx
  rw [e, if_pos ⟨h, hx⟩]
def fk (P : Nat → Nat → Nat) (ac set v k : Nat) : Bool := decide (4 ≤ k) && decide (fx P ac set v (k / 4) (k % 4) ≠ 0)
def fz (P : Nat → Nat → Nat) (ac set v : Nat) : Nat := fa_first (fk P ac set v) (4 * set)
def dg (v : Nat) : List Nat := (if 99 < v then [48 + v / 100] else []) ++ ((if 9 < v then [48 + v / 10 % 10] else []) ++ [48 + v % 10])
theorem dg_len (v : Nat) : (dg v).length ≤ 3 := by
  unfold dg
  split <;> split <;> simp
def wr (P : Nat → Nat → Nat) (ac : Nat) : Nat → Nat → Nat → List Nat
  | 0, _, _ => []
  | f + 1, set, v =>
    if pb set = 1 then dg v else
      if fz P ac set v < 4 * set then
        40 :: (wr P ac f (fz P ac set v / 4) (fx P ac set v (fz P ac set v / 4) (fz P ac set v % 4)) ++ mk (fz P ac set v % 4) :: (wr P ac f (set ^^^ (fz P ac set v / 4)) (oth (fz P ac set v % 4) (fx P ac set v (fz P ac set v / 4) (fz P ac set v % 4)) v) ++ [41]))
      else []
theorem wr_s {P : Nat → Nat → Nat} {ac f set v : Nat} : wr P ac (f + 1) set v = if pb set = 1 then dg v else
      if fz P ac set v < 4 * set then
        40 :: (wr P ac f (fz P ac set v / 4) (fx P ac set v (fz P ac set v / 4) (fz P ac set v % 4)) ++ mk (fz P ac set v % 4) :: (wr P ac f (set ^^^ (fz P ac set v / 4)) (oth (fz P ac set v % 4) (fx P ac set v (fz P ac set v / 4) (fz P ac set v % 4)) v) ++ [41]))
      else [] := rfl
theorem pb_part1 : ∀ set, set < 64 → ∀ k, k < 64 → wpB set k = true → pb k + pb (set ^^^ k) = pb set := by decide +kernel
theorem pb_pos : ∀ set, set < 64 → 1 ≤ set → 1 ≤ pb set := by decide +kernel
/-- what a place that is found holds -/
theorem fz_of {P : Nat → Nat → Nat} {ac set v : Nat} (hs : set < 64) (h : fz P ac set v < 4 * set) : wpB set (fz P ac set v / 4) = true ∧ fx P ac set v (fz P ac set v / 4) (fz P ac set v % 4) ≠ 0 ∧ fz P ac set v / 4 < 64 := by
  have h3 := fa_first_yes (fk P ac set v) (4 * set) h
  change fk P ac set v (fz P ac set v) = true at h3
  generalize fz P ac set v = z at h h3 ⊢
  unfold fk at h3
  rw [Bool.and_eq_true, decide_eq_true_eq, decide_eq_true_eq] at h3
  have := fx_pos h3.2
  have ok := this.1
  unfold okA at ok
  rw [Bool.and_eq_true] at ok
  exact ⟨ok.1, h3.2, by omega⟩
theorem wr_fuel {P : Nat → Nat → Nat} {ac : Nat} : ∀ f g set v, 1 ≤ set → set < 64 → pb set ≤ f → pb set ≤ g → wr P ac f set v = wr P ac g set v := by
  intro f
  induction f with
  | zero => intro g set v h1 h2 h3; have := pb_pos set h2 h1; omega
  | succ f ih =>
    intro g set v h1 h2 h3 h4
    have p1 := pb_pos set h2 h1
    obtain ⟨g, rfl⟩ : ∃ g', g = g' + 1 := ⟨g - 1, by omega⟩
    rw [wr_s, wr_s]
    by_cases c : pb set = 1
    · rw [if_pos c, if_pos c]
    · rw [if_neg c, if_neg c]
      by_cases c2 : fz P ac set v < 4 * set
      · rw [if_pos c2, if_pos c2]
        have hz := fz_of h2 c2
        have hf := w_fin set h2 _ hz.2.2 hz.1
        have l1 := wpB_lt hz.1
        have l2 := wpB_lt hf.1
        have pp := pb_part1 set h2 _ hz.2.2 hz.1
        have q1 := pb_pos _ hz.2.2 l1.1
        have q2 := pb_pos _ (show set ^^^ (fz P ac set v / 4) < 64 by omega) l2.1
        rw [ih g _ _ l1.1 hz.2.2 (by omega) (by omega), ih g _ _ l2.1 (by omega) (by omega) (by omega)]
      · rw [if_neg c2, if_neg c2]
/-- the text of the first way -/
def wW2 (P : Nat → Nat → Nat) (ac set v : Nat) : List Nat := wr P ac 7 set v
theorem tx_leaf {P : Nat → Nat → Nat} {ac set v : Nat} (h : pb set = 1) : wW2 P ac set v = dg v := by
  show wr P ac (6 + 1) set v = _
  rw [wr_s, if_pos h]
theorem tx_none {P : Nat → Nat → Nat} {ac set v : Nat} (h : pb set ≠ 1) (h2 : ¬ fz P ac set v < 4 * set) : wW2 P ac set v = [] := by
  show wr P ac (6 + 1) set v = _
  rw [wr_s, if_neg h, if_neg h2]
theorem tx_node {P : Nat → Nat → Nat} {ac set v : Nat} (hs : set < 64) (h : pb set ≠ 1) (h2 : fz P ac set v < 4 * set) : wW2 P ac set v = 40 :: (wW2 P ac (fz P ac set v / 4) (fx P ac set v (fz P ac set v / 4) (fz P ac set v % 4)) ++ mk (fz P ac set v % 4) :: (wW2 P ac (set ^^^ (fz P ac set v / 4)) (oth (fz P ac set v % 4) (fx P ac set v (fz P ac set v / 4) (fz P ac set v % 4)) v) ++ [41])) := by
  have hz := fz_of hs h2
  have hf := w_fin set hs _ hz.2.2 hz.1
  have l1 := wpB_lt hz.1
  have l2 := wpB_lt hf.1
  have pp := pb_part1 set hs _ hz.2.2 hz.1
  have q1 := pb_pos _ hz.2.2 l1.1
  have q2 := pb_pos _ (show set ^^^ (fz P ac set v / 4) < 64 by omega) l2.1
  have q3 := pb_64 set hs
  have e : wW2 P ac set v = wr P ac (6 + 1) set v := rfl
  rw [e, wr_s, if_neg h, if_pos h2]
  unfold wW2
  rw [wr_fuel 6 7 _ _ l1.1 hz.2.2 (by omega) (by omega), wr_fuel 6 7 _ _ l2.1 (by omega) (by omega) (by omega)]
/-- the parts of a place that is found -/
theorem fz_parts {P : Nat → Nat → Nat} {ac set v : Nat} (hs : set < 64) (h2 : fz P ac set v < 4 * set) (hz0 : ∀ s, P s 0 = 0) (hv : v < 3001) :
    let l := fz P ac set v / 4
    let a := fz P ac set v % 4
    let x := fx P ac set v l a
    1 ≤ l ∧ l < set ∧ 1 ≤ set ^^^ l ∧ set ^^^ l < set ∧ wpB set l = true ∧ a < 4 ∧ 1 ≤ x ∧ x < 3001 ∧ 0 < P l x ∧ 1 ≤ oth a x v ∧ oth a x v < 3001 ∧ 0 < P (set ^^^ l) (oth a x v) ∧ pb l + pb (set ^^^ l) = pb set ∧ 1 ≤ pb l ∧ 1 ≤ pb (set ^^^ l) := by
  intro l a x
  have hz := fz_of hs h2
  have hf := w_fin set hs _ hz.2.2 hz.1
  have l1 := wpB_lt hz.1
  have l2 := wpB_lt hf.1
  have fp := fx_pos hz.2.1
  have c := fp.2.2
  unfold cnd at c
  rw [Bool.and_eq_true, Bool.and_eq_true, decide_eq_true_eq, decide_eq_true_eq, decide_eq_true_eq] at c
  refine ⟨l1.1, l1.2, l2.1, l2.2, hz.1, Nat.mod_lt _ (by decide), c.1, fp.2.1, c.2.1, ?_, oth_lt fp.2.1 hv, c.2.2, pb_part1 set hs _ hz.2.2 hz.1, pb_pos _ hz.2.2 l1.1, pb_pos _ (Nat.lt_trans l2.2 hs) l2.1⟩
  refine Nat.pos_of_ne_zero fun e => ?_
  have := c.2.2
  have e' : oth (fz P ac set v % 4) (fx P ac set v (fz P ac set v / 4) (fz P ac set v % 4)) v = 0 := e
  rw [e', hz0] at this
  omega
theorem tx_len {P : Nat → Nat → Nat} {ac : Nat} (hz0 : ∀ s, P s 0 = 0) : ∀ k set v, pb set ≤ k → 1 ≤ set → set < 64 → v < 3001 → (wW2 P ac set v).length ≤ 6 * pb set - 3 := by
  intro k
  induction k with
  | zero => intro set v h1 h2 h3; have := pb_pos set h3 h2; omega
  | succ k ih =>
    intro set v h1 h2 h3 h4
    have p1 := pb_pos set h3 h2
    by_cases c : pb set = 1
    · rw [tx_leaf c, c]
      exact dg_len v
    · by_cases c2 : fz P ac set v < 4 * set
      · rw [tx_node h3 c c2]
        obtain ⟨q1, q2, q3, q4, q5, q6, q7, q8, q9, q10, q11, q12, q13, q14, q15⟩ := fz_parts h3 c2 hz0 h4
        have i1 := ih (fz P ac set v / 4) (fx P ac set v (fz P ac set v / 4) (fz P ac set v % 4)) (by omega) q1 (by omega) q8
        have i2 := ih (set ^^^ (fz P ac set v / 4)) (oth (fz P ac set v % 4) (fx P ac set v (fz P ac set v / 4) (fz P ac set v % 4)) v) (by omega) q3 (by omega) q11
        simp only [List.length_cons, List.length_append, List.length_nil]
        omega
      · rw [tx_none c c2]
        exact Nat.zero_le _
