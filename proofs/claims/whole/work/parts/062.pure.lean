/-! sums -/
theorem sm_swap (F : Nat → Nat → Nat) (n m : Nat) : fb_sm (fun i => fb_sm (fun j => F i j) m) n = fb_sm (fun j => fb_sm (fun i => F i j) n) m := by
  induction n with
  | zero =>
    show 0 = fb_sm (fun _ => 0) m
    rw [fb_sm_const]; omega
  | succ n ih =>
    rw [fb_sm_succ, ih, ← fb_sm_add]
    rfl
theorem sm_mul (c : Nat) (f : Nat → Nat) (n : Nat) : fb_sm (fun k => c * f k) n = c * fb_sm f n := by
  induction n with
  | zero => rfl
  | succ n ih => rw [fb_sm_succ, ih, fb_sm_succ, Nat.mul_add]
theorem sm_mulr (c : Nat) (f : Nat → Nat) (n : Nat) : fb_sm (fun k => f k * c) n = fb_sm f n * c := by
  induction n with
  | zero => show 0 = 0 * c; omega
  | succ n ih => rw [fb_sm_succ, ih, fb_sm_succ, Nat.add_mul]
theorem sm_zero {f : Nat → Nat} {n : Nat} (h : ∀ k, k < n → f k = 0) : fb_sm f n = 0 := by
  rw [fb_sm_cong (g := fun _ => 0) h, fb_sm_const]; omega
theorem sm_one {a n : Nat} (h : a < n) (f : Nat → Nat) : fb_sm (fun k => if k = a then f k else 0) n = f a := by
  induction n with
  | zero => omega
  | succ n ih =>
    rw [fb_sm_succ]
    by_cases e : a = n
    · subst e
      rw [sm_zero (fun k hk => by simp [show k ≠ a by omega])]
      simp
    · rw [ih (by omega)]
      simp [show n ≠ a by omega]
/-- a list without repetition, against the sum over all -/
theorem sm_list {fl : Nat → Nat} {n m : Nat} (hr : ∀ i, i < n → fl i < m) (hi : ∀ i j, i < n → j < n → fl i = fl j → i = j) (g : Nat → Nat) (hg : ∀ v, v < m → (∀ i, i < n → fl i ≠ v) → g v = 0) : fb_sm (fun i => g (fl i)) n = fb_sm g m := by
  have h1 : ∀ i, i < n → g (fl i) = fb_sm (fun v => if v = fl i then g v else 0) m := fun i h => (sm_one (hr i h) g).symm
  rw [fb_sm_cong h1, sm_swap]
  refine fb_sm_cong fun v hv => ?_
  by_cases hx : ∃ i, i < n ∧ fl i = v
  · obtain ⟨i, h2, h3⟩ := hx
    have h4 : ∀ k, k < n → (if v = fl k then g v else 0) = (if k = i then g v else 0) := fun k hk => by
      by_cases e : k = i
      · subst e; simp [h3]
      · have : v ≠ fl k := fun e2 => e (hi k i hk h2 (e2.symm.trans h3.symm))
        simp [e, this]
    rw [fb_sm_cong h4]
    exact sm_one h2 (fun _ => g v)
  · rw [hg v hv (fun i h2 h3 => hx ⟨i, h2, h3⟩)]
    exact sm_zero fun k _ => by split <;> rfl
theorem sm_perm {s : Nat → Nat} {n : Nat} (hr : ∀ i, i < n → s i < n) (hi : ∀ i, i < n → s (s i) = i) (g : Nat → Nat) : fb_sm (fun i => g (s i)) n = fb_sm g n := by
  refine sm_list hr (fun i j h1 h2 e => by rw [← hi i h1, e, hi j h2]) g (fun v hv h => absurd (hi v hv) (h (s v) (hr v hv)))
/-! ways -/
/-- x on the left, y on the right: by how many of the acts they come to v; f: the left set has the least item -/
def wc (ac : Nat) (f : Bool) (x y v : Nat) : Nat :=
  (if f = true ∧ ac.testBit 0 = true ∧ x + y = v then 1 else 0) + (if ac.testBit 1 = true ∧ y < x ∧ x - y = v then 1 else 0) + (if f = true ∧ ac.testBit 2 = true ∧ x * y = v then 1 else 0) + (if ac.testBit 3 = true ∧ x % y = 0 ∧ x / y = v then 1 else 0)
/-- two parts of a set; whether the left one has the least item -/
def wpB (set k : Nat) : Bool := decide (1 ≤ k) && decide (k < set) && decide (k &&& set = k)
def wfB (set k : Nat) : Bool := decide (k &&& (set &&& (64 - set)) ≠ 0)
theorem w_fin : ∀ set, set < 64 → ∀ k, k < 64 → wpB set k = true → (wpB set (set ^^^ k) = true ∧ set ^^^ (set ^^^ k) = k ∧ wfB set (set ^^^ k) = !wfB set k) := by decide +kernel
theorem wpB_lt {set k : Nat} (h : wpB set k = true) : 1 ≤ k ∧ k < set := by
  simp only [wpB, Bool.and_eq_true, decide_eq_true_eq] at h
  exact h.1
/-- one step: the ways of a set to v out of those of its parts -/
def wG (ac : Nat) (c : Nat → Nat → Nat) (set : Nat) (f : Bool) (v left : Nat) : Nat := fb_sm (fun x => fb_sm (fun y => c left x * c (set ^^^ left) y * wc ac f x y v) 3001) 3001
def wS (ac mo : Nat) (c : Nat → Nat → Nat) (set v : Nat) : Nat :=
  if v ≤ mo then fb_sm (fun left => if wpB set left = true then wG ac c set (wfB set left) v left else 0) set else 0
/-- which item a set of one item holds; 6: the set has not just one -/
def wb (set : Nat) : Nat := if set = 1 then 0 else if set = 2 then 1 else if set = 4 then 2 else if set = 8 then 3 else if set = 16 then 4 else if set = 32 then 5 else 6
def wF (ac mo : Nat) (it : Nat → Nat) : Nat → Nat → Nat → Nat
  | 0, _, _ => 0
  | f + 1, set, v => if set = 0 ∨ v = 0 ∨ 3000 < v then 0 else if wb set < 6 then (if v = it (wb set) then 1 else 0) else wS ac mo (wF ac mo it f) set v
/-- how many ways a set of the items has to v -/
def wW (ac mo : Nat) (it : Nat → Nat) (set v : Nat) : Nat := wF ac mo it 64 set v
theorem wS_cong {ac mo : Nat} {c c' : Nat → Nat → Nat} {set v : Nat} (hs : set < 64) (h : ∀ l, 1 ≤ l → l < set → ∀ x, x < 3001 → c l x = c' l x) : wS ac mo c set v = wS ac mo c' set v := by
  unfold wS
  split
  · refine fb_sm_cong fun left hl => ?_
    split
    · rename_i hp
      have h1 := wpB_lt hp
      have h2 := wpB_lt (w_fin set hs left (by omega) hp).1
      refine fb_sm_cong fun x hx => fb_sm_cong fun y hy => ?_
      rw [h left h1.1 h1.2 x hx, h _ h2.1 h2.2 y hy]
    · rfl
  · rfl
theorem wF_fuel {ac mo : Nat} {it : Nat → Nat} : ∀ (f g set v : Nat), set < 64 → set < f → set < g → wF ac mo it f set v = wF ac mo it g set v := by
  intro f
  induction f with
  | zero => intro g set v h0 h; omega
  | succ f ih =>
    intro g set v h0 hf hg
    cases g with
    | zero => omega
    | succ g =>
      unfold wF
      split
      · rfl
      · split
        · rfl
        · exact wS_cong h0 fun l h1 h2 x hx => ih g l x (by omega) (by omega) (by omega)
theorem wW_eq {ac mo : Nat} {it : Nat → Nat} {set v : Nat} (hs : set < 64) : wW ac mo it set v = if set = 0 ∨ v = 0 ∨ 3000 < v then 0 else if wb set < 6 then (if v = it (wb set) then 1 else 0) else wS ac mo (wW ac mo it) set v := by
  show wF ac mo it (63 + 1) set v = _
  rw [wF]
  split
  · rfl
  · split
    · rfl
    · exact wS_cong hs fun l h1 h2 x hx => wF_fuel 63 64 l x (by omega) (by omega) (by omega)
/-- both orders of two parts told at the one that has the least item -/
def wH (ac : Nat) (c : Nat → Nat → Nat) (set : Nat) (v left : Nat) : Nat := fb_sm (fun x => fb_sm (fun y => c left x * c (set ^^^ left) y * (wc ac true x y v + wc ac false y x v)) 3001) 3001
theorem wH_eq {ac : Nat} {c : Nat → Nat → Nat} {set v left : Nat} (h : set ^^^ (set ^^^ left) = left) : wH ac c set v left = wG ac c set true v left + wG ac c set false v (set ^^^ left) := by
  unfold wH wG
  rw [h, sm_swap (fun x y => c (set ^^^ left) x * c left y * wc ac false x y v), ← fb_sm_add]
  refine fb_sm_cong fun x _ => ?_
  rw [← fb_sm_add]
  refine fb_sm_cong fun y _ => ?_
  rw [Nat.mul_add, Nat.mul_comm (c (set ^^^ left) y) (c left x)]
theorem wS_sym {ac mo : Nat} {c : Nat → Nat → Nat} {set v : Nat} (hs : set < 64) : wS ac mo c set v = if v ≤ mo then fb_sm (fun left => if wpB set left = true ∧ wfB set left = true then wH ac c set v left else 0) set else 0 := by
  unfold wS
  split
  · have e1 : ∀ left, left < set → (if wpB set left = true then wG ac c set (wfB set left) v left else 0) = (if wpB set left = true ∧ wfB set left = true then wG ac c set true v left else 0) + (if wpB set left = true ∧ wfB set left = false then wG ac c set false v left else 0) := fun left _ => by
      cases h1 : wpB set left <;> cases h2 : wfB set left <;> simp
    rw [fb_sm_cong e1, fb_sm_add]
    have e2 := sm_perm (s := fun k => if wpB set k = true then set ^^^ k else k) (n := set) (fun i hi => by
      split
      · rename_i hp; exact (wpB_lt (w_fin set hs i (by omega) hp).1).2
      · exact hi) (fun i hi => by
      by_cases hp : wpB set i = true
      · have h3 := w_fin set hs i (by omega) hp
        rw [if_pos hp, if_pos h3.1, h3.2.1]
      · rw [if_neg hp, if_neg hp]) (fun left => if wpB set left = true ∧ wfB set left = false then wG ac c set false v left else 0)
    rw [← e2, ← fb_sm_add]
    refine fb_sm_cong fun left hl => ?_
    by_cases hp : wpB set left = true
    · have h3 := w_fin set hs left (by omega) hp
      simp only [hp, if_true, h3.1, h3.2.2, true_and]
      cases h4 : wfB set left
      · simp
      · simp [wH_eq h3.2.1]
    · simp [hp]
  · rfl
/-! how many at most -/
def wpc (set : Nat) : Nat := set % 2 + set / 2 % 2 + set / 4 % 2 + set / 8 % 2 + set / 16 % 2 + set / 32 % 2
def wtB (set : Nat) : Nat := ([0, 1, 8, 192, 7680, 430080, 30965760] : List Nat).getD (wpc set) 0
theorem w_fin2 : ∀ set, set < 64 → (fb_sm (fun left => if wpB set left = true then 4 * (wtB left * wtB (set ^^^ left)) else 0) set ≤ wtB set ∧ wtB set ≤ 30965760 ∧ (set ≠ 0 → 1 ≤ wtB set)) := by decide +kernel
theorem sm_ind {n : Nat} (P : Nat → Prop) [DecidablePred P] (h : ∀ i j, i < n → j < n → P i → P j → i = j) : fb_sm (fun v => if P v then 1 else 0) n ≤ 1 := by
  induction n with
  | zero => exact Nat.zero_le 1
  | succ n ih =>
    rw [fb_sm_succ]
    by_cases hp : P n
    · rw [sm_zero (fun k hk => by
        rw [if_neg]
        intro hk2
        have := h k n (by omega) (by omega) hk2 hp
        omega)]
      simp [hp]
    · have := ih (fun i j h1 h2 => h i j (by omega) (by omega))
      simp [hp]
      exact this
theorem wc_sum (ac : Nat) (f : Bool) (x y : Nat) : fb_sm (fun v => wc ac f x y v) 3001 ≤ 4 := by
  unfold wc
  rw [fb_sm_add, fb_sm_add, fb_sm_add]
  have h1 := sm_ind (n := 3001) (fun v => f = true ∧ ac.testBit 0 = true ∧ x + y = v) (fun i j _ _ a b => by omega)
  have h2 := sm_ind (n := 3001) (fun v => ac.testBit 1 = true ∧ y < x ∧ x - y = v) (fun i j _ _ a b => by omega)
  have h3 := sm_ind (n := 3001) (fun v => f = true ∧ ac.testBit 2 = true ∧ x * y = v) (fun i j _ _ a b => a.2.2.symm.trans b.2.2)
  have h4 := sm_ind (n := 3001) (fun v => ac.testBit 3 = true ∧ x % y = 0 ∧ x / y = v) (fun i j _ _ a b => a.2.2.symm.trans b.2.2)
  omega
theorem wG_sum (ac : Nat) (c : Nat → Nat → Nat) (set : Nat) (f : Bool) (left : Nat) : fb_sm (fun v => wG ac c set f v left) 3001 ≤ 4 * (fb_sm (c left) 3001 * fb_sm (c (set ^^^ left)) 3001) := by
  unfold wG
  rw [sm_swap (fun v x => fb_sm (fun y => c left x * c (set ^^^ left) y * wc ac f x y v) 3001)]
  have e : 4 * (fb_sm (c left) 3001 * fb_sm (c (set ^^^ left)) 3001) = fb_sm (fun x => fb_sm (fun y => c left x * c (set ^^^ left) y * 4) 3001) 3001 := by
    have e1 : ∀ x, x < 3001 → fb_sm (fun y => c left x * c (set ^^^ left) y * 4) 3001 = c left x * (fb_sm (c (set ^^^ left)) 3001 * 4) := fun x _ => by
      rw [sm_mulr 4 (fun y => c left x * c (set ^^^ left) y), sm_mul, Nat.mul_assoc]
    rw [fb_sm_cong e1, sm_mulr]
    rw [Nat.mul_comm 4, Nat.mul_assoc]
  rw [e]
  refine fb_sm_le fun x _ => ?_
  rw [sm_swap (fun v y => c left x * c (set ^^^ left) y * wc ac f x y v)]
  refine fb_sm_le fun y _ => ?_
  rw [sm_mul]
  exact Nat.mul_le_mul_left _ (wc_sum ac f x y)
theorem wW_sum {ac mo : Nat} {it : Nat → Nat} : ∀ (N set : Nat), set < N → set < 64 → fb_sm (wW ac mo it set) 3001 ≤ wtB set := by
  intro N
  induction N with
  | zero => intro set h; omega
  | succ N ih =>
    intro set hN h64
    by_cases h0 : set = 0
    · subst h0
      rw [sm_zero (fun k _ => by rw [wW_eq h64]; simp)]
      exact Nat.zero_le _
    · by_cases hb : wb set < 6
      · have e : ∀ v, v < 3001 → wW ac mo it set v ≤ (if v = it (wb set) then 1 else 0) := fun v _ => by
          rw [wW_eq h64]
          split
          · exact Nat.zero_le _
          · first | exact Nat.le_refl _ | (rw [if_pos hb]; exact Nat.le_refl _)
        have h1 := fb_sm_le e
        have h2 := sm_ind (n := 3001) (fun v => v = it (wb set)) (fun i j _ _ a b => a.trans b.symm)
        have h3 := (w_fin2 set h64).2.2 h0
        omega
      · have e : ∀ v, v < 3001 → wW ac mo it set v ≤ fb_sm (fun left => if wpB set left = true then wG ac (wW ac mo it) set (wfB set left) v left else 0) set := fun v _ => by
          rw [wW_eq h64]
          split
          · exact Nat.zero_le _
          · (try rw [if_neg hb])
            unfold wS
            split
            · exact Nat.le_refl _
            · exact Nat.zero_le _
        refine Nat.le_trans (fb_sm_le e) ?_
        rw [sm_swap (fun v left => if wpB set left = true then wG ac (wW ac mo it) set (wfB set left) v left else 0)]
        refine Nat.le_trans (fb_sm_le (g := fun left => if wpB set left = true then 4 * (wtB left * wtB (set ^^^ left)) else 0) fun left hl => ?_) (w_fin2 set h64).1
        by_cases hp : wpB set left = true
        · simp only [hp, if_true]
          have h1 := wpB_lt hp
          have h2 := wpB_lt (w_fin set h64 left (by omega) hp).1
          refine Nat.le_trans (wG_sum ac _ set _ left) (Nat.mul_le_mul_left 4 (Nat.mul_le_mul ?_ ?_))
          · exact ih left (by omega) (by omega)
          · exact ih _ (by omega) (by omega)
        · simp only [hp]
          exact Nat.le_of_eq (sm_zero fun _ _ => rfl)
theorem wW_le {ac mo : Nat} {it : Nat → Nat} {set v : Nat} (h : set < 64) : wW ac mo it set v ≤ 30965760 := by
  by_cases hv : v < 3001
  · have h1 := fb_sm_part (wW ac mo it set) hv
    have h2 := wW_sum (ac := ac) (mo := mo) (it := it) (set + 1) set (by omega) h
    have h3 := fb_sm_mono (wW ac mo it set) 3001 0
    have h4 : fb_sm (wW ac mo it set) v + wW ac mo it set v ≤ fb_sm (wW ac mo it set) 3001 := h1
    have h5 := (w_fin2 set h).2.1
    omega
  · rw [wW_eq h, if_pos (by omega)]
    omega
