/-! signs: both sides walk alike -/
def fc : Nat → Nat
  | 0 => 1
  | n + 1 => (n + 1) * fc n
def rt (x : Nat) : Nat := fa_first (fun r => decide (x < (r + 1) * (r + 1))) 72
theorem rt_eq {x r : Nat} (hx : x ≤ 5040) (h1 : r * r ≤ x) (h2 : x < (r + 1) * (r + 1)) : rt x = r := by
  have a1 := fa_first_le (fun r => decide (x < (r + 1) * (r + 1))) 72
  have a2 := fa_first_no (fun r => decide (x < (r + 1) * (r + 1))) 72
  have a3 := fa_first_yes (fun r => decide (x < (r + 1) * (r + 1))) 72
  have hr : r < 72 := by
    refine Nat.lt_of_not_le fun c => ?_
    have := Nat.mul_le_mul c c
    omega
  unfold rt
  generalize fa_first (fun r => decide (x < (r + 1) * (r + 1))) 72 = z at a1 a2 a3
  rcases Nat.lt_trichotomy z r with c | c | c
  · have := of_decide_eq_true (a3 (by omega))
    have : (z + 1) * (z + 1) ≤ r * r := Nat.mul_le_mul c c
    omega
  · exact c
  · exact absurd h2 (of_decide_eq_false (a2 r c))
def sg (k x : Nat) : Nat := if k = 0 then rt x else if k = 1 then (if x ≤ 7 then fc x else 6000) else if k = 2 then (if x ≤ 70 then x * (x + 1) / 2 else 6000) else (if x = 0 then 6000 else x - 1)
def sgI (k x : Nat) : Int32 := if sg k x = 6000 then -1 else nI (sg k x)
theorem fc_7 : ∀ x, x < 8 → fc x ≤ 5040 := by decide +kernel
theorem rt_le (x : Nat) : rt x ≤ 72 := fa_first_le _ 72
theorem tri_le {x : Nat} (h : x ≤ 70) : x * (x + 1) / 2 ≤ 2485 := by
  have : x * (x + 1) ≤ 70 * 71 := Nat.mul_le_mul h (by omega)
  omega
theorem sg_lt {k x : Nat} (hx : x ≤ 5040) : sg k x = 6000 ∨ sg k x ≤ 5040 := by
  unfold sg
  split
  · have := rt_le x; omega
  · split
    · split
      · have := fc_7 x (by omega); omega
      · omega
    · split
      · split
        · have := tri_le (x := x) (by assumption); omega
        · omega
      · split <;> omega
theorem c_root {x : Nat} (hx : x ≤ 5040) {post : Int32 → Prop} (h : post (nI (rt x))) : v_X4_rootOf (nI x) post := by
  unfold v_X4_rootOf
  refine pk_loop (σ := Nat) (fun n i s => v_X4_rootOf_5 (nI x) post n (nI s) (nI (64 / 2 ^ i))) (fun i s => s * s ≤ x ∧ x < (s + 128 / 2 ^ i) * (s + 128 / 2 ^ i) ∧ s ≤ 200) 7 0 0 (by omega) ⟨by omega, by simp; omega, by omega⟩ (fun n s hI => ?_) (fun n i s hi hI k => ?_)
  · unfold v_X4_rootOf_5
    refine pk_le 0 0 (fun _ => ?_) (fun c => absurd c (by omega)) (hx := by simp) (hy := rfl)
    rw [rt_eq hx hI.1 hI.2.1] at h
    exact h
  · unfold v_X4_rootOf_5
    obtain ⟨i1, i2, i3⟩ := hI
    have hb : 1 ≤ 64 / 2 ^ i ∧ 128 / 2 ^ i = 2 * (64 / 2 ^ i) ∧ 128 / 2 ^ (i + 1) = 64 / 2 ^ i ∧ 64 / 2 ^ i / 2 = 64 / 2 ^ (i + 1) ∧ 64 / 2 ^ i ≤ 64 := by
      rcases (show i = 0 ∨ i = 1 ∨ i = 2 ∨ i = 3 ∨ i = 4 ∨ i = 5 ∨ i = 6 by omega) with rfl | rfl | rfl | rfl | rfl | rfl | rfl <;> decide
    obtain ⟨b1, b2, b3, b4, b5⟩ := hb
    rw [b2] at i2
    have k2 : ∀ s', s' * s' ≤ x ∧ x < (s' + 64 / 2 ^ i) * (s' + 64 / 2 ^ i) ∧ s' ≤ 200 → v_X4_rootOf_5 (nI x) post n (nI s') (nI (64 / 2 ^ i) / 2) := fun s' h9 => by
      have e : nI (64 / 2 ^ i) / 2 = nI (64 / 2 ^ (i + 1)) := by
        rw [show (2 : Int32) = nI 2 from rfl, pk_div (by omega) (by omega) (by omega), b4]
      rw [e]
      exact k s' (by rw [b3]; exact h9)
    generalize 64 / 2 ^ i = b at *
    have hsb : (s + b) * (s + b) < 2 ^ 31 := Nat.lt_of_le_of_lt (Nat.mul_le_mul (show s + b ≤ 264 by omega) (show s + b ≤ 264 by omega)) (by decide)
    refine pk_le b 0 (fun c => absurd c (by omega)) (fun _ => ?_)
    rw [nI_add, pk_mul]
    unfold v_X4_rootOf_24
    refine pk_lt x ((s + b) * (s + b)) (fun c x2 e2 => ?_) (fun c x1 e1 x2 e2 => ?_)
    · rw [e2]
      exact k2 s ⟨i1, c, i3⟩
    · rw [e2, e1]
      have : s + b ≤ 200 := by
        refine Nat.le_of_not_lt fun c2 => ?_
        have := Nat.mul_le_mul (show 201 ≤ s + b by omega) (show 201 ≤ s + b by omega)
        omega
      refine k2 (s + b) ⟨c, ?_, this⟩
      rw [show s + b + b = s + 2 * b by omega]
      exact i2
theorem c_prod {x : Nat} (hx : x ≤ 7) {post : Int32 → Prop} (h : post (nI (fc x))) : v_X4_productTo (nI x) post := by
  unfold v_X4_productTo
  refine pk_loop (σ := Unit) (fun n i _ => v_X4_productTo_4 (nI x) post n (nI (fc (i - 1))) (nI i)) (fun i _ => 2 ≤ i) (if x ≤ 1 then 2 else x + 1) 2 () (by split <;> omega) (by omega) (fun n _ _ => ?_) (fun n i _ hi hI k => ?_)
  · unfold v_X4_productTo_4
    split
    · refine pk_lt x 2 (fun _ => ?_) (fun c => absurd c (by omega))
      have : fc x = 1 := by
        rcases (show x = 0 ∨ x = 1 by omega) with rfl | rfl <;> rfl
      rw [this] at h
      exact h
    · refine pk_lt x (x + 1) (fun _ => ?_) (fun c => absurd c (by omega))
      exact h
  · unfold v_X4_productTo_4
    have hi8 : i ≤ 8 ∧ i ≤ x := by split at hi <;> omega
    refine pk_lt x i (fun c => absurd c (by omega)) (fun _ x1 e1 x2 e2 => ?_)
    have : x2 = nI (i + 1) := by rw [e2]; exact nI_1 i
    subst this
    have : fc (i + 1 - 1) = fc (i - 1) * i := by
      obtain ⟨j, rfl⟩ : ∃ j, i = j + 1 := ⟨i - 1, by omega⟩
      show (j + 1) * fc j = fc j * (j + 1)
      exact Nat.mul_comm _ _
    rw [e1, pk_mul, ← this]
    exact k () (by omega)
theorem tri_I {x : Nat} (h : x ≤ 70) : nI x * (nI x + 1) / 2 = nI (x * (x + 1) / 2) := by
  rw [nI_1, pk_mul, show (2 : Int32) = nI 2 from rfl]
  have : x * (x + 1) ≤ 70 * 71 := Nat.mul_le_mul h (by omega)
  exact pk_div (by omega) (by omega) (by omega)
theorem less_I {x : Nat} : nI x - 1 = if x = 0 then -1 else nI (x - 1) := by
  by_cases c : x = 0
  · subst c; decide
  · rw [if_neg c]
    obtain ⟨j, rfl⟩ : ∃ j, x = j + 1 := ⟨x - 1, by omega⟩
    exact nI_pred j
theorem sgI_0 {x : Nat} : sgI 0 x = nI (rt x) := by
  have := rt_le x
  unfold sgI
  have e : sg 0 x = rt x := by simp [sg]
  rw [e, if_neg (by omega)]
theorem sgI_1 {x : Nat} : sgI 1 x = if x ≤ 7 then nI (fc x) else -1 := by
  unfold sgI
  have e : sg 1 x = if x ≤ 7 then fc x else 6000 := by simp [sg]
  rw [e]
  split
  · have := fc_7 x (by omega)
    rw [if_neg (by omega)]
  · rfl
theorem sgI_2 {x : Nat} : sgI 2 x = if x ≤ 70 then nI (x * (x + 1) / 2) else -1 := by
  unfold sgI
  have e : sg 2 x = if x ≤ 70 then x * (x + 1) / 2 else 6000 := by simp [sg]
  rw [e]
  split
  · have := tri_le (x := x) (by assumption)
    rw [if_neg (by omega)]
  · rfl
theorem sgI_3 {x : Nat} (hx : x ≤ 5040) : sgI 3 x = if x = 0 then -1 else nI (x - 1) := by
  unfold sgI
  have e : sg 3 x = if x = 0 then 6000 else x - 1 := by simp [sg]
  rw [e]
  split
  · rfl
  · rw [if_neg (by omega)]
theorem i32_ne {a b : Nat} (ha : a < 4) (hb : b < 4) (h : a ≠ b) : ¬ nI a = nI b := fun e => h ((nI_eq (by omega) (by omega)).mp e)
theorem c_signed {k x : Nat} (hk : k < 4) (hx : x ≤ 5040) {post : Int32 → Prop} (h : post (sgI k x)) : v_X4_signed (nI k) (nI x) post := by
  unfold v_X4_signed
  refine ⟨fun c => ?_, fun c => ?_, fun c => ?_, fun c => ?_⟩
  · rw [nI_toInt (by omega)] at c
    have : k = 3 := by omega
    subst this
    rw [sgI_3 hx, ← less_I] at h
    exact h
  · have : k = 0 := (nI_eq (b := 0) (by omega) (by omega)).mp c
    subst this
    rw [sgI_0] at h
    exact c_root hx h
  · have : k = 1 := (nI_eq (b := 1) (by omega) (by omega)).mp c
    subst this
    rw [sgI_1] at h
    refine pk_lt 7 x (fun c => ?_) (fun c => c_prod c ?_)
    · rw [if_neg (by omega)] at h; exact h
    · rw [if_pos c] at h; exact h
  · have : k = 2 := (nI_eq (b := 2) (by omega) (by omega)).mp c
    subst this
    rw [sgI_2] at h
    refine pk_lt 70 x (fun c => ?_) (fun c => ?_)
    · rw [if_neg (by omega)] at h; exact h
    · rw [if_pos c, ← tri_I c] at h; exact h
theorem r_root {x : Nat} (hx : x ≤ 5040) {post : Int32 → Prop} (h : post (nI (rt x))) : v_X6_root (nI x) post := by
  unfold v_X6_root
  refine pk_loop (σ := Unit) (fun n i _ => v_X6_root_2 (nI x) post n (nI i)) (fun i _ => i * i ≤ x) 71 0 () (by omega) (by omega) (fun n s hI => absurd hI (by omega)) (fun n i s hi hI k => ?_)
  unfold v_X6_root_2
  have hsb : (i + 1) * (i + 1) < 2 ^ 31 := Nat.lt_of_le_of_lt (Nat.mul_le_mul (show i + 1 ≤ 264 by omega) (show i + 1 ≤ 264 by omega)) (by decide)
  rw [nI_1, pk_mul]
  refine pk_lt x ((i + 1) * (i + 1)) (fun c => ?_) (fun c x1 e1 => ?_)
  · rw [rt_eq hx hI c] at h
    exact h
  · rw [e1]
    exact k () c
theorem r_signed {k x : Nat} (hk : k < 4) (hx : x ≤ 5040) {post : Int32 → Prop} (h : post (sgI k x)) : v_X6_signed (nI k) (nI x) post := by
  unfold v_X6_signed
  refine ⟨fun c => ⟨fun c1 => ⟨fun c2 => ?_, fun c2 => ?_⟩, fun c1 => ?_⟩, fun c => ?_⟩
  · have : k = 3 := by
      have a0 : k ≠ 0 := fun e => c (by rw [e]; rfl)
      have a1 : k ≠ 1 := fun e => c1 (by rw [e]; rfl)
      have a2 : k ≠ 2 := fun e => c2 (by rw [e]; rfl)
      omega
    subst this
    rw [sgI_3 hx, ← less_I] at h
    exact h
  · have : k = 2 := (nI_eq (b := 2) (by omega) (by omega)).mp c2
    subst this
    rw [sgI_2] at h
    refine pk_lt 70 x (fun c => ?_) (fun c => ?_)
    · rw [if_neg (by omega)] at h; exact h
    · rw [if_pos c, ← tri_I c] at h; exact h
  · have : k = 1 := (nI_eq (b := 1) (by omega) (by omega)).mp c1
    subst this
    rw [sgI_1] at h
    refine pk_loop (σ := Unit) (fun n i _ => v_X6_signed_18 (nI x) post n (nI (fc (i - 1))) (nI i)) (fun i _ => 2 ≤ i) (if x ≤ 1 ∨ 7 < x then 2 else x + 1) 2 () (by split <;> omega) (by omega) (fun n _ _ => ?_) (fun n i _ hi hI k => ?_)
    · unfold v_X6_signed_18 v_X6_signed_39
      by_cases c7 : x ≤ 7
      · rw [if_pos c7] at h
        have fin : ((7 : Int32) < nI x → post (-1)) ∧ (¬ (7 : Int32) < nI x → post (nI (fc ((if x ≤ 1 ∨ 7 < x then 2 else x + 1) - 1)))) := by
          refine pk_lt 7 x (fun c => absurd c (by omega)) (fun _ => ?_)
          by_cases c8 : x ≤ 1 ∨ 7 < x
          · rw [if_pos c8]
            have : fc x = 1 := by
              rcases (show x = 0 ∨ x = 1 by omega) with rfl | rfl <;> rfl
            rw [this] at h
            exact h
          · rw [if_neg c8]
            exact h
        exact pk_lt x (if x ≤ 1 ∨ 7 < x then 2 else x + 1) (fun _ => fin) (fun c => absurd c (by split <;> omega)) rfl rfl (by omega) (by split <;> omega)
      · rw [if_neg c7] at h
        have fin : ∀ z : Int32, ((7 : Int32) < nI x → post (-1)) ∧ (¬ (7 : Int32) < nI x → post z) := fun z => pk_lt 7 x (fun _ => h) (fun c => absurd c (by omega))
        exact pk_lt x (if x ≤ 1 ∨ 7 < x then 2 else x + 1) (fun _ => fin _) (fun _ => pk_lt 7 x (fun _ => fin _) (fun c => absurd c (by omega))) rfl rfl (by omega) (by split <;> omega)
    · unfold v_X6_signed_18
      have hi8 : i ≤ 8 ∧ i ≤ x ∧ x ≤ 7 := by split at hi <;> omega
      refine pk_lt x i (fun c => absurd c (by omega)) (fun _ => pk_lt 7 x (fun c => absurd c (by omega)) (fun _ x1 e1 x2 e2 => ?_))
      have : x2 = nI (i + 1) := by rw [e2]; exact nI_1 i
      subst this
      have : fc (i + 1 - 1) = fc (i - 1) * i := by
        obtain ⟨j, rfl⟩ : ∃ j, i = j + 1 := ⟨i - 1, by omega⟩
        show (j + 1) * fc j = fc j * (j + 1)
        exact Nat.mul_comm _ _
      rw [e1, pk_mul, ← this]
      exact k () (by omega)
  · have : k = 0 := (nI_eq (b := 0) (by omega) (by omega)).mp c
    subst this
    rw [sgI_0] at h
    exact r_root hx h
/-- the walk: steps (one more, 0 for none), the line, how many stand in it -/
abbrev wT : Type := (Nat → Nat) × (Nat → Nat) × Nat
def arr (s : wT) (z d : Nat) : wT := if z ≤ 5040 ∧ s.1 z = 0 then (uF s.1 z d, uF s.2.1 s.2.2 z, s.2.2 + 1) else s
def stp (s : wT) (x : Nat) : Nat → wT
  | 0 => s
  | k + 1 => arr (stp s x k) (sg k x) ((stp s x k).1 x + 1)
def wk : Nat → Nat → wT → wT
  | 0, _, s => s
  | f + 1, i, s => if i < s.2.2 then wk f (i + 1) (stp s (s.2.1 i) 4) else s
def w0 (a : Nat) : wT := (uF (fun _ => 0) a 1, uF (fun _ => 0) 0 a, 1)
def wZ (a : Nat) : wT := wk 5041 0 (w0 a)
/-- what holds in the walk -/
def WI (s : wT) : Prop := s.2.2 ≤ 5041 ∧ (∀ i, i < s.2.2 → s.2.1 i ≤ 5040 ∧ 0 < s.1 (s.2.1 i)) ∧ (∀ i j, i < j → j < s.2.2 → s.2.1 i ≠ s.2.1 j) ∧ ∀ x, s.1 x ≤ s.2.2
theorem WI.lt {s : wT} (h : WI s) {z : Nat} (hz : z ≤ 5040) (h0 : s.1 z = 0) : s.2.2 < 5041 := by
  have := fb_holes 5041 (s.2.2 + 1) (fun i => if i < s.2.2 then s.2.1 i else z) (fun i _ => by
    show (if i < s.2.2 then s.2.1 i else z) < 5041
    split
    · rename_i c
      have := (h.2.1 i c).1
      omega
    · omega) (fun i j hij hj e => by
    have e : (if i < s.2.2 then s.2.1 i else z) = (if j < s.2.2 then s.2.1 j else z) := e
    rw [if_pos (by omega)] at e
    by_cases c : j < s.2.2
    · rw [if_pos c] at e
      exact h.2.2.1 i j hij c e
    · rw [if_neg c] at e
      have := (h.2.1 i (by omega)).2
      rw [e, h0] at this
      omega)
  omega
theorem WI.ar {s : wT} (h : WI s) {z x : Nat} : WI (arr s z (s.1 x + 1)) := by
  unfold arr
  split
  · rename_i c
    have hlt := h.lt c.1 c.2
    obtain ⟨h1, h2, h3, h4⟩ := h
    have hne : ∀ i, i < s.2.2 → s.2.1 i ≠ z := fun i hi e => by
      have := (h2 i hi).2
      rw [e, c.2] at this
      omega
    refine ⟨by show s.2.2 + 1 ≤ 5041; omega, fun i hi => ?_, fun i j hij hj => ?_, fun y => ?_⟩
    · have hi : i < s.2.2 + 1 := hi
      show uF s.2.1 s.2.2 z i ≤ 5040 ∧ 0 < uF s.1 z (s.1 x + 1) (uF s.2.1 s.2.2 z i)
      unfold uF
      by_cases e : i = s.2.2
      · simp [e]; exact c.1
      · have := hne i (by omega)
        simp [e, this]
        exact h2 i (by omega)
    · have hj : j < s.2.2 + 1 := hj
      show uF s.2.1 s.2.2 z i ≠ uF s.2.1 s.2.2 z j
      unfold uF
      rw [if_neg (by omega)]
      by_cases e : j = s.2.2
      · rw [if_pos e]; exact hne i (by omega)
      · rw [if_neg e]; exact h3 i j hij (by omega)
    · show uF s.1 z (s.1 x + 1) y ≤ s.2.2 + 1
      unfold uF
      have := h4 x
      have := h4 y
      split <;> omega
  · exact h
theorem WI.st {s : wT} (h : WI s) (x : Nat) : ∀ k, WI (stp s x k)
  | 0 => h
  | k + 1 => (WI.st h x k).ar
theorem WI.z0 {a : Nat} (h : a ≤ 5040) : WI (w0 a) := by
  refine ⟨by show 1 ≤ 5041; omega, fun i hi => ?_, fun i j hij hj => ?_, fun x => ?_⟩
  · have hi : i < 1 := hi
    have : i = 0 := by omega
    subst this
    show uF (fun _ => 0) 0 a 0 ≤ 5040 ∧ 0 < uF (fun _ => 0) a 1 (uF (fun _ => 0) 0 a 0)
    simp [uF]; exact h
  · have hj : j < 1 := hj
    omega
  · show uF (fun _ => 0) a 1 x ≤ 1
    unfold uF
    split
    · omega
    · exact Nat.zero_le _
theorem arr_old {s : wT} {z d i : Nat} (hi : i < s.2.2) : (arr s z d).2.1 i = s.2.1 i ∧ i < (arr s z d).2.2 := by
  unfold arr
  split
  · refine ⟨?_, by show i < s.2.2 + 1; omega⟩
    show uF s.2.1 s.2.2 z i = _
    unfold uF
    rw [if_neg (by omega)]
  · exact ⟨rfl, hi⟩
theorem sgI_out {k x : Nat} (hx : x ≤ 5040) : (sg k x ≤ 5040 → sgI k x = nI (sg k x)) ∧ (¬ sg k x ≤ 5040 → sgI k x = -1) := by
  have := sg_lt (k := k) hx
  unfold sgI
  refine ⟨fun c => by rw [if_neg (by omega)], fun c => by rw [if_pos (by omega)]⟩
theorem st_m1 {d : Nat} (h : d < 2 ^ 30) : nI d - 1 = -1 ↔ d = 0 := by
  rw [less_I]
  by_cases c : d = 0
  · simp [c]
  · simp only [c, if_false, iff_false]
    intro e
    have := congrArg Int32.toInt e
    rw [nI_toInt (by omega)] at this
    have e1 : (-1 : Int32).toInt = -1 := by decide
    rw [e1] at this
    omega
/-- the class' walk in memory -/
def WM (A0 A : xM) (s : wT) : Prop := WI s ∧ (∀ x, x ≤ 5040 → A 21 x = nI (s.1 x) - 1) ∧ (∀ i, i < s.2.2 → A 22 i = nI (s.2.1 i)) ∧ A 20 2 = nI s.2.2 ∧ ∀ a b, a ≠ 21 → a ≠ 22 → ¬ (a = 20 ∧ b = 2) → A a b = A0 a b
theorem c_arrive {A0 A : xM} {L : xL} {s : wT} (h : WM A0 A s) {k x y : Nat} (hx : x ≤ 5040) {post : xM → xL → Prop} (kk : ∀ A', WM A0 A' (arr s (sg k x) (s.1 y + 1)) → post A' L) : v_X4_arrive (sgI k x) (nI (s.1 y) - 1 + 1) A L post := by
  obtain ⟨h1, h2, h3, h4, h5⟩ := id h
  have so := sgI_out (k := k) hx
  unfold v_X4_arrive
  have skip : arr s (sg k x) (s.1 y + 1) = s → post A L := fun e => kk A (by rw [e]; exact h)
  by_cases c : sg k x ≤ 5040
  · rw [so.1 c]
    generalize sg k x = z at c kk skip
    refine s_out (a := nI 0) (b := nI 5040) (fun _ => ⟨fun c2 => absurd rfl c2, fun _ => ⟨pk_in z 5041 (by omega), ?_⟩⟩) (fun c2 => absurd (wI_of (by omega) c (by omega)) c2)
    have hz := h1.2.2.2 z
    have hs0 := h1.1
    rw [nI_clamp (show z < 2 ^ 31 by omega), h2 z c, st_m1 (by omega)]
    have hs0 := h1.1
    refine ⟨fun c2 => skip (by unfold arr; rw [if_neg (by omega)]), fun c2 => ?_⟩
    have hlt := h1.lt c c2
    rw [h4]
    refine pk_lt s.2.2 5041 (fun _ A6 e6 => ?_) (fun c => absurd c (by omega))
    have e20 : A6 20 2 = nI s.2.2 := by rw [e6]; unfold xu; rw [if_neg (by omega)]; exact h4
    rw [e20]
    refine ⟨pk_in s.2.2 5041 hlt, fun A8 e8 A9 e9 => ?_⟩
    rw [nI_clamp (show s.2.2 < 2 ^ 31 by omega)] at e8
    have e20 : A8 20 2 = nI s.2.2 := by rw [e8]; unfold xu; rw [if_neg (by omega)]; exact e20
    rw [e20, nI_1] at e9
    refine kk A9 ?_
    have ea : arr s z (s.1 y + 1) = (uF s.1 z (s.1 y + 1), uF s.2.1 s.2.2 z, s.2.2 + 1) := by unfold arr; rw [if_pos ⟨c, c2⟩]
    have hW := h1.ar (z := z) (x := y)
    rw [ea] at hW ⊢
    refine ⟨hW, fun u hu => ?_, fun i hi => ?_, ?_, fun a b c1 c2 c3 => ?_⟩
    · show A9 21 u = nI (uF s.1 z (s.1 y + 1) u) - 1
      rw [e9, e8, e6]; unfold xu uF
      rw [if_neg (by omega), if_neg (by omega)]
      by_cases e : u = z
      · rw [if_pos ⟨rfl, e⟩, if_pos e, nI_pred]
        exact Int32.sub_add_cancel _ _
      · rw [if_neg (by omega), if_neg e]; exact h2 u hu
    · have hi : i < s.2.2 + 1 := hi
      show A9 22 i = nI (uF s.2.1 s.2.2 z i)
      rw [e9, e8, e6]; unfold xu uF
      rw [if_neg (by omega)]
      by_cases e : i = s.2.2
      · rw [if_pos ⟨rfl, e⟩, if_pos e]
      · rw [if_neg (by omega), if_neg (by omega), if_neg e]; exact h3 i (by omega)
    · show A9 20 2 = nI (s.2.2 + 1)
      rw [e9]; simp [xu]
    · rw [e9, e8, e6]; unfold xu
      rw [if_neg (by omega), if_neg (by omega), if_neg (by omega)]
      exact h5 a b c1 c2 c3
  · rw [so.2 c]
    refine s_out (fun c2 => absurd c2 (by decide)) (fun _ => ⟨fun _ => skip (by unfold arr; rw [if_neg (by omega)]), fun c2 => absurd c2 (by decide)⟩)
theorem stp_lt {s : wT} {x i : Nat} (hi : i < s.2.2) : ∀ k, (stp s x k).2.1 i = s.2.1 i ∧ i < (stp s x k).2.2
  | 0 => ⟨rfl, hi⟩
  | k + 1 => by
    have h := stp_lt hi k (x := x)
    have h2 := arr_old (s := stp s x k) (z := sg k x) (d := (stp s x k).1 x + 1) h.2
    exact ⟨h2.1.trans h.1, h2.2⟩
theorem c_walk {A : xM} {L : xL} {a : Nat} (ha : a ≤ 5040) {post : xM → xL → Prop} (kk : ∀ A', (∀ x, x ≤ 5040 → A' 21 x = nI ((wZ a).1 x) - 1) → A' 20 3 = nI a → (∀ k b, k ≠ 20 → k ≠ 21 → k ≠ 22 → A' k b = A k b) → post A' L) : v_X4_walkFrom (nI a) A L post := by
  unfold v_X4_walkFrom
  intro A1 e1 A2 e2
  have fr2 : ∀ k b, k ≠ 20 → A2 k b = A k b := fun k b hk => by
    rw [e2, e1]; unfold xu
    rw [if_neg (by omega), if_neg (by omega)]
  have a23 : A2 20 3 = nI a := by rw [e2, e1]; simp [xu]
  have a22 : A2 20 2 = nI 0 := by rw [e2]; simp [xu]; rfl
  refine pk_loop (σ := xM) (fun n i s => v_X4_walkFrom_12 (nI a) post n (nI i) s L) (fun i s => (∀ k b, k ≠ 21 → s k b = A2 k b) ∧ ∀ x, x < i → s 21 x = -1) 5041 0 A2 (by omega) ⟨fun _ _ _ => rfl, fun x hx => by omega⟩ (fun n s hI => ?_) (fun n i s hi hI k => ?_)
  · unfold v_X4_walkFrom_12
    obtain ⟨i1, i2⟩ := hI
    refine pk_le 5041 5041 (fun _ => ?_) (fun c => absurd c (by omega))
    -- the first arrival
    unfold v_X4_arrive
    refine s_out (a := nI 0) (b := nI 5040) (fun _ => ⟨fun c2 => absurd rfl c2, fun _ => ⟨pk_in a 5041 (by omega), ?_⟩⟩) (fun c2 => absurd (wI_of (by omega) ha (by omega)) c2)
    rw [nI_clamp (show a < 2 ^ 31 by omega), i2 a (by omega), i1 _ _ (by decide), a22]
    refine ⟨fun c => absurd rfl c, fun _ => pk_lt 0 5041 (fun _ A6 e6 => ?_) (fun c => absurd c (by omega))⟩
    have e20 : A6 20 2 = nI 0 := by rw [e6]; unfold xu; rw [if_neg (by omega), i1 _ _ (by decide)]; exact a22
    rw [e20]
    refine ⟨pk_in 0 5041 (by omega), fun A8 e8 A9 e9 => ?_⟩
    rw [nI_clamp (show 0 < 2 ^ 31 by omega)] at e8
    have e20 : A8 20 2 = nI 0 := by rw [e8]; unfold xu; rw [if_neg (by omega)]; exact e20
    rw [e20, nI_1] at e9
    have M0 : WM A2 A9 (w0 a) := by
      refine ⟨WI.z0 ha, fun u hu => ?_, fun i hi => ?_, by rw [e9]; simp [xu]; rfl, fun k b c1 c2 c3 => ?_⟩
      · show A9 21 u = nI (uF (fun _ => 0) a 1 u) - 1
        rw [e9, e8, e6]; unfold xu uF
        rw [if_neg (by omega), if_neg (by omega)]
        by_cases e : u = a
        · rw [if_pos ⟨rfl, e⟩, if_pos e]; decide
        · rw [if_neg (by omega), if_neg e, i2 u (by omega)]; show (-1 : Int32) = nI 0 - 1; decide
      · have hi : i < 1 := hi
        have : i = 0 := by omega
        subst this
        show A9 22 0 = nI (uF (fun _ => 0) 0 a 0)
        rw [e9, e8]; simp [xu, uF]
      · rw [e9, e8, e6]; unfold xu
        rw [if_neg (by omega), if_neg (by omega), if_neg (by omega)]
        exact i1 k b c1
    have fin : ∀ s A', WM A2 A' s → s = wZ a → post A' L := fun s A' hM hs => by
      subst hs
      exact kk A' hM.2.1 (by rw [hM.2.2.2.2 _ _ (by decide) (by decide) (by decide)]; exact a23) (fun k b c1 c2 c3 => by rw [hM.2.2.2.2 k b c2 c3 (by omega)]; exact fr2 k b c1)
    refine pk_loop (σ := xM) (fun n i s => v_X4_walkFrom_42 post n (nI i) s L) (fun i s => ∃ t : wT, WM A2 s t ∧ wk (5041 - i) i t = wZ a) 5041 0 A9 (by omega) ⟨w0 a, M0, rfl⟩ (fun n s hI => ?_) (fun n i s hi hI k => ?_)
    · obtain ⟨t, j1, j2⟩ := hI
      unfold v_X4_walkFrom_42
      rw [j1.2.2.2.1]
      have := j1.1.1
      exact pk_le t.2.2 5041 (fun _ => fin t s j1 j2) (fun c => absurd c (by omega))
    · obtain ⟨t, j1, j2⟩ := hI
      have hw := j1.1.1
      unfold v_X4_walkFrom_42
      rw [j1.2.2.2.1]
      rw [show 5041 - i = (5041 - (i + 1)) + 1 by omega] at j2
      unfold wk at j2
      refine pk_le t.2.2 i (fun c => ?_) (fun c => pk_le 5041 i (fun c => absurd c (by omega)) (fun _ => ⟨pk_in i 5041 (by omega), fun x3 e3 => ?_⟩))
      · rw [if_neg (by omega)] at j2
        exact fin t s j1 j2
      · rw [if_pos c] at j2
        rw [nI_clamp (show i < 2 ^ 31 by omega), j1.2.2.1 i c] at e3
        subst e3
        have hq := (j1.1.2.1 i c).1
        generalize t.2.1 i = x at hq j2
        refine pk_loop (σ := xM) (fun n' kd s' => v_X4_walkFrom_69 (nI i) (nI x) (fun x2 A L => v_X4_walkFrom_42 post n x2 A L) post n' (nI kd) s' L) (fun kd s' => WM A2 s' (stp t x kd)) 4 0 s (by omega) j1 (fun n' s' hI => ?_) (fun n' kd s' hkd hI k2 => ?_)
        · unfold v_X4_walkFrom_69
          refine pk_le 4 4 (fun _ x2 e2 => ?_) (fun c => absurd c (by omega))
          have : x2 = nI (i + 1) := by rw [e2]; exact nI_1 i
          subst this
          exact k s' ⟨_, hI, j2⟩
        · unfold v_X4_walkFrom_69
          refine pk_le 4 kd (fun c => absurd c (by omega)) (fun _ => c_signed hkd hq ⟨pk_in x 5041 (by omega), ?_⟩)
          rw [nI_clamp (show x < 2 ^ 31 by omega), hI.2.1 x hq]
          refine c_arrive hI hq (fun A' hM x4 e4 => ?_)
          have : x4 = nI (kd + 1) := by rw [e4]; exact nI_1 kd
          subst this
          exact k2 A' hM
  · unfold v_X4_walkFrom_12
    obtain ⟨i1, i2⟩ := hI
    refine pk_le 5041 i (fun c => absurd c (by omega)) (fun _ => ⟨pk_in i 5041 (by omega), fun A5 e5 x2 e2 => ?_⟩)
    have : x2 = nI (i + 1) := by rw [e2]; exact nI_1 i
    subst this
    rw [nI_clamp (show i < 2 ^ 31 by omega)] at e5
    refine k A5 ⟨fun k b hk => by rw [e5]; unfold xu; rw [if_neg (by omega)]; exact i1 k b hk, fun x hx => ?_⟩
    rw [e5]; unfold xu
    by_cases e : x = i
    · rw [if_pos ⟨rfl, e⟩]
    · rw [if_neg (by omega)]; exact i2 x (by omega)
/-- the reference's walk in memory -/
def WN (A0 A : xM) (s : wT) : Prop := WI s ∧ (∀ x, x ≤ 5040 → A 34 x = nI (s.1 x) - 1) ∧ (∀ i, i < s.2.2 → A 35 i = nI (s.2.1 i)) ∧ ∀ a b, a ≠ 34 → a ≠ 35 → A a b = A0 a b
theorem r_signs {A : xM} {L : xL} {a b : Nat} (ha1 : 1 ≤ a) (ha : a ≤ 100) (hb : b ≤ 5040) {post : Int32 → xM → xL → Prop} (kk : ∀ A', (∀ k b, k ≠ 34 → k ≠ 35 → A' k b = A k b) → post (nI ((wZ a).1 b) - 1) A' L) : ∃ k9, v_X6_signs_30 (nI a) (nI b) post k9 (0 : Int32) A L := by
  refine pk_loop (σ := xM) (fun n i s => v_X6_signs_30 (nI a) (nI b) post n (nI i) s L) (fun i s => (∀ k b, k ≠ 34 → s k b = A k b) ∧ ∀ x, x < i → s 34 x = -1) 5041 0 A (by omega) ⟨fun _ _ _ => rfl, fun x hx => by omega⟩ (fun n s hI => ?_) (fun n i s hi hI k => ?_)
  · unfold v_X6_signs_30
    obtain ⟨i1, i2⟩ := hI
    refine pk_lt 5040 5041 (fun _ => ⟨pk_in a 5041 (by omega), fun A3 e3 => ⟨pk_in 0 5041 (by omega), fun A5 e5 => ?_⟩⟩) (fun c => absurd c (by omega))
    rw [nI_clamp (show a < 2 ^ 31 by omega)] at e3
    have M0 : WN A A5 (w0 a) := by
      refine ⟨WI.z0 (by omega), fun u hu => ?_, fun i hi => ?_, fun k b c1 c2 => ?_⟩
      · show A5 34 u = nI (uF (fun _ => 0) a 1 u) - 1
        rw [e5, e3]; unfold xu uF
        rw [if_neg (by omega)]
        by_cases e : u = a
        · rw [if_pos ⟨rfl, e⟩, if_pos e]; decide
        · rw [if_neg (by omega), if_neg e, i2 u (by omega)]; show (-1 : Int32) = nI 0 - 1; decide
      · have hi : i < 1 := hi
        have : i = 0 := by omega
        subst this
        show A5 35 0 = nI (uF (fun _ => 0) 0 a 0)
        rw [e5]
        unfold xu uF
        rw [if_pos ⟨rfl, rfl⟩, if_pos rfl]
      · rw [e5, e3]; unfold xu
        rw [if_neg (by omega), if_neg (by omega)]
        exact i1 k b c1
    have fin : ∀ s A', WN A A' s → s = wZ a → vp_in (nI b) 5041 ∧ post (A' 34 (nI b).toNatClampNeg) A' L := fun s A' hM hs => by
      subst hs
      refine ⟨pk_in b 5041 (by omega), ?_⟩
      rw [nI_clamp (show b < 2 ^ 31 by omega), hM.2.1 b hb]
      exact kk A' hM.2.2.2
    refine pk_loop (σ := xM × wT) (fun n i s => v_X6_signs_69 (nI b) post n (nI s.2.2.2) (nI i) s.1 L) (fun i s => WN A s.1 s.2 ∧ wk (5041 - i) i s.2 = wZ a) 5041 0 (A5, w0 a) (by omega) ⟨M0, rfl⟩ (fun n s hI => ?_) (fun n i s hi hI k => ?_)
    · obtain ⟨j1, j2⟩ := hI
      unfold v_X6_signs_69
      have := j1.1.1
      exact pk_le s.2.2.2 5041 (fun _ => fin s.2 s.1 j1 j2) (fun c => absurd c (by omega))
    · obtain ⟨A6, t⟩ := s
      obtain ⟨j1, j2⟩ := hI
      dsimp only at j1 j2 k ⊢
      have hw := j1.1.1
      unfold v_X6_signs_69
      rw [show 5041 - i = (5041 - (i + 1)) + 1 by omega] at j2
      unfold wk at j2
      refine pk_le t.2.2 i (fun c => ?_) (fun c => ⟨pk_in i 5041 (by omega), fun x3 e3 => ?_⟩)
      · rw [if_neg (by omega)] at j2
        exact fin t A6 j1 j2
      · rw [if_pos c] at j2
        rw [nI_clamp (show i < 2 ^ 31 by omega), j1.2.2.1 i c] at e3
        subst e3
        have hq := (j1.1.2.1 i c).1
        generalize t.2.1 i = x at hq j2
        refine pk_loop (σ := xM) (fun n' kd s' => v_X6_signs_87 (nI b) (nI i) (nI x) (fun x3 x4 A L => v_X6_signs_69 (nI b) post n x3 x4 A L) post n' (nI (stp t x kd).2.2) (nI kd) s' L) (fun kd s' => WN A s' (stp t x kd)) 4 0 A6 (by omega) j1 (fun n' s' hI => ?_) (fun n' kd s' hkd hI k2 => ?_)
        · unfold v_X6_signs_87
          refine pk_le 4 4 (fun _ x2 e2 => ?_) (fun c => absurd c (by omega))
          have : x2 = nI (i + 1) := by rw [e2]; exact nI_1 i
          subst this
          exact k (s', stp t x 4) ⟨hI, j2⟩
        · unfold v_X6_signs_87
          refine pk_le 4 kd (fun c => absurd c (by omega)) (fun _ => r_signed hkd hq ?_)
          have so := sgI_out (k := kd) hq
          have nxt : ∀ x3 : Int32, x3 = nI kd + 1 → x3 = nI (kd + 1) := fun x3 ex => by rw [ex]; exact nI_1 kd
          have stay : ¬ (sg kd x ≤ 5040 ∧ (stp t x kd).1 (sg kd x) = 0) → stp t x (kd + 1) = stp t x kd := fun hn => by
            show arr _ _ _ = _
            unfold arr
            rw [if_neg hn]
          have keep : ¬ (sg kd x ≤ 5040 ∧ (stp t x kd).1 (sg kd x) = 0) → ∀ x6 : Int32, x6 = nI kd + 1 → v_X6_signs_87 (nI b) (nI i) (nI x) (fun x3 x4 A L => v_X6_signs_69 (nI b) post n x3 x4 A L) post n' (nI (stp t x kd).2.2) x6 s' L := fun hn x6 e6 => by
            rw [nxt x6 e6]
            have := k2 s' (by rw [stay hn]; exact hI)
            rw [stay hn] at this
            exact this
          by_cases c2 : sg kd x ≤ 5040
          · rw [so.1 c2]
            refine ⟨fun c3 => absurd c3 (nI_pos (by omega)), fun _ => pk_lt 5040 (sg kd x) (fun c3 => absurd c3 (by omega)) (fun _ => ⟨pk_in (sg kd x) 5041 (by omega), ?_⟩)⟩
            have hz := hI.1.2.2.2 (sg kd x)
            have hs0 := hI.1.1
            rw [nI_clamp (show sg kd x < 2 ^ 31 by omega), hI.2.1 _ c2]
            have hle : (0 : Int32) ≤ nI ((stp t x kd).1 (sg kd x)) - 1 ↔ (stp t x kd).1 (sg kd x) ≠ 0 := by
              rw [less_I]
              by_cases c4 : (stp t x kd).1 (sg kd x) = 0
              · rw [if_pos c4]; simp [c4]
              · rw [if_neg c4]
                exact ⟨fun _ => c4, fun _ => nI_pos' (by omega)⟩
            rw [hle]
            refine ⟨fun c3 => keep (fun hn => c3 hn.2), fun c3 => ⟨pk_in x 5041 (by omega), fun A12 e12 => ?_⟩⟩
            have c3 : (stp t x kd).1 (sg kd x) = 0 := by
              by_cases c4 : (stp t x kd).1 (sg kd x) = 0
              · exact c4
              · exact absurd c4 c3
            have hlt := hI.1.lt c2 c3
            rw [nI_clamp (show x < 2 ^ 31 by omega), hI.2.1 x hq] at e12
            refine ⟨pk_in (stp t x kd).2.2 5041 hlt, fun A14 e14 x3 e3 x6 e6 => ?_⟩
            rw [nI_clamp (show (stp t x kd).2.2 < 2 ^ 31 by omega)] at e14
            have e3 : x3 = nI ((stp t x kd).2.2 + 1) := by rw [e3]; exact nI_1 _
            have ea : stp t x (kd + 1) = (uF (stp t x kd).1 (sg kd x) ((stp t x kd).1 x + 1), uF (stp t x kd).2.1 (stp t x kd).2.2 (sg kd x), (stp t x kd).2.2 + 1) := by
              show arr _ _ _ = _
              unfold arr
              rw [if_pos ⟨c2, c3⟩]
            have hW := (WI.st j1.1 x (kd + 1))
            have := k2 A14 (by
              rw [ea] at hW ⊢
              refine ⟨hW, fun u hu => ?_, fun i hi => ?_, fun a b c1 c2 => ?_⟩
              · show A14 34 u = nI (uF (stp t x kd).1 (sg kd x) ((stp t x kd).1 x + 1) u) - 1
                rw [e14, e12]; unfold xu uF
                rw [if_neg (by omega)]
                by_cases e : u = sg kd x
                · rw [if_pos ⟨rfl, e⟩, if_pos e, nI_pred]
                  exact Int32.sub_add_cancel _ _
                · rw [if_neg (by omega), if_neg e]; exact hI.2.1 u hu
              · have hi : i < (stp t x kd).2.2 + 1 := hi
                show A14 35 i = nI (uF (stp t x kd).2.1 (stp t x kd).2.2 (sg kd x) i)
                rw [e14, e12]; unfold xu uF
                by_cases e : i = (stp t x kd).2.2
                · rw [if_pos ⟨rfl, e⟩, if_pos e]
                · rw [if_neg (by omega), if_neg (by omega), if_neg e]; exact hI.2.2.1 i (by omega)
              · rw [e14, e12]; unfold xu
                rw [if_neg (by omega), if_neg (by omega)]
                exact hI.2.2.2 a b c1 c2)
            rw [nxt x6 e6, e3]
            rw [ea] at this
            exact this
          · rw [so.2 c2]
            exact ⟨fun _ => keep (fun hn => c2 hn.1), fun c3 => absurd (by decide) c3⟩
  · unfold v_X6_signs_30
    obtain ⟨i1, i2⟩ := hI
    refine pk_lt 5040 i (fun c => absurd c (by omega)) (fun _ => ⟨pk_in i 5041 (by omega), fun A7 e7 x3 e3 => ?_⟩)
    have : x3 = nI (i + 1) := by rw [e3]; exact nI_1 i
    subst this
    rw [nI_clamp (show i < 2 ^ 31 by omega)] at e7
    refine k A7 ⟨fun k b hk => by rw [e7]; unfold xu; rw [if_neg (by omega)]; exact i1 k b hk, fun x hx => ?_⟩
    rw [e7]; unfold xu
    by_cases e : x = i
    · rw [if_pos ⟨rfl, e⟩]
    · rw [if_neg (by omega)]; exact i2 x (by omega)
