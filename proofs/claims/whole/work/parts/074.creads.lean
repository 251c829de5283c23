/-! what a heap tells: the class -/
def aS (P : Nat → Nat → Nat) (S v : Nat) : Nat := fb_sm (fun s => P s v) S
def hS (P : Nat → Nat → Nat) (S set v : Nat) : Bool := if set = 0 then decide (0 < aS P S v) else decide (0 < P set v)
/-- how many numbers below i -/
def cN (p : Nat → Bool) (i : Nat) : Nat := fb_sm (fun v => if 1 ≤ v ∧ p v = true then 1 else 0) i
theorem cN_le {p : Nat → Bool} {i : Nat} : cN p i ≤ i := by
  have := fb_sm_bound (f := fun v => if 1 ≤ v ∧ p v = true then 1 else 0) (c := 1) (n := i) (fun k _ => by split <;> omega)
  unfold cN
  omega
def fF (p : Nat → Bool) (d : Int32) : Int32 := if fa_first p 3001 < 3001 then nI (fa_first p 3001) else d
theorem fF_yes {p : Nat → Bool} {d : Int32} {i : Nat} (hi : i < 3001) (h : ∀ j, j < i → p j = false) (hp : p i = true) : fF p d = nI i := by
  have h1 := fa_first_le p 3001
  have h2 := fa_first_no p 3001
  have h3 := fa_first_yes p 3001
  have e : fa_first p 3001 = i := by
    rcases Nat.lt_trichotomy (fa_first p 3001) i with c | c | c
    · have := h3 (by omega); rw [h _ c] at this; exact absurd this (by decide)
    · exact c
    · have := h2 i c; rw [hp] at this; exact absurd this (by decide)
  unfold fF
  rw [e, if_pos hi]
theorem fF_no {p : Nat → Bool} {d : Int32} (h : ∀ j, j < 3001 → p j = false) : fF p d = d := by
  have h3 := fa_first_yes p 3001
  unfold fF
  split
  · rename_i c
    have := h3 c; rw [h _ c] at this; exact absurd this (by decide)
  · rfl
def pV (p : Nat → Bool) (i : Int32) (v : Nat) : Bool := decide (1 ≤ v) && p v && decide (nI (cN p v) = i)
def pM (p : Nat → Bool) (v : Nat) : Bool := decide (1 ≤ v) && !p v
/-- of the sets below i the first with the fewest items; 0: none -/
def bst (p : Nat → Bool) : Nat → Nat
  | 0 => 0
  | i + 1 => if 1 ≤ i ∧ p i = true ∧ (bst p i = 0 ∨ pb i < pb (bst p i)) then i else bst p i
theorem bst_lt (p : Nat → Bool) : ∀ i, bst p i = 0 ∨ (1 ≤ bst p i ∧ bst p i < i ∧ p (bst p i) = true)
  | 0 => Or.inl rfl
  | i + 1 => by
    have h := bst_lt p i
    unfold bst
    split
    · rename_i c
      exact Or.inr ⟨c.1, by omega, c.2.1⟩
    · rcases h with h | h
      · exact Or.inl h
      · exact Or.inr ⟨h.1, by omega, h.2.2⟩
theorem bst_more (p : Nat → Bool) {a : Nat} : ∀ b, a ≤ b → (∀ j, a ≤ j → j < b → p j = false) → bst p b = bst p a := by
  intro b
  induction b with
  | zero => intro h _; rw [show a = 0 by omega]
  | succ b ih =>
    intro h hp
    by_cases e : a = b + 1
    · rw [e]
    · have := ih (by omega) (fun j h1 h2 => hp j h1 (by omega))
      have e : bst p (b + 1) = if 1 ≤ b ∧ p b = true ∧ (bst p b = 0 ∨ pb b < pb (bst p b)) then b else bst p b := rfl
      rw [e, hp b (by omega) (by omega)]
      simp
      exact this
def dst (a b : Nat) : Nat := if a ≤ b then b - a else a - b
/-- the nearest that p tells -/
def NR (p : Nat → Bool) (v : Nat) (r : Int32) : Prop := (r = -1 ∧ ∀ u, 1 ≤ u → u < 3001 → p u = false) ∨ ∃ b, r = nI b ∧ 1 ≤ b ∧ b < 3001 ∧ p b = true ∧ ∀ u, 1 ≤ u → u < 3001 → p u = true → dst v b ≤ dst v u ∧ (dst v u = dst v b → b ≤ u)
theorem NR.one {p : Nat → Bool} {v : Nat} {r r2 : Int32} (h : NR p v r) (h2 : NR p v r2) : r = r2 := by
  rcases h with ⟨e, h⟩ | ⟨b, e, h3, h4, h5, h6⟩
  · rcases h2 with ⟨e2, g⟩ | ⟨b2, e2, g3, g4, g5, g6⟩
    · rw [e, e2]
    · rw [h b2 g3 g4] at g5; exact absurd g5 (by decide)
  · rcases h2 with ⟨e2, g⟩ | ⟨b2, e2, g3, g4, g5, g6⟩
    · rw [g b h3 h4] at h5; exact absurd h5 (by decide)
    · have a1 := h6 b2 g3 g4 g5
      have a2 := g6 b h3 h4 h5
      have := a1.2 (by omega)
      have := a2.2 (by omega)
      rw [e, e2, show b = b2 by omega]
theorem pb_64 : ∀ s, s < 64 → pb s < 7 := by decide +kernel
section CR
variable {q : Nat} {A : xM} {L : xL} {P : Nat → Nat → Nat} {fl : Nat → Nat → Nat} {nf : Nat → Nat}
theorem c_hold (hv : HV q A L P fl nf) {v : Nat} (h2 : v < 3001) : ∃ k, A (7 + 6 * q) v = nI k ∧ k ≤ 64 ∧ (0 < k ↔ 0 < aS P (64 - 48 * q) v) := by
  refine ⟨_, hv.2 v h2, ?_, ?_⟩
  · have := fb_sm_bound (f := fun set => if 0 < P set v then 1 else 0) (c := 1) (n := 64 - 48 * q) (fun k _ => by split <;> omega)
    omega
  · unfold aS
    constructor
    · intro h
      refine Nat.pos_of_ne_zero fun e => ?_
      have z := fb_sm_zero e
      have : fb_sm (fun set => if 0 < P set v then 1 else 0) (64 - 48 * q) = 0 := sm_zero fun s hs => by rw [z s hs]; rfl
      omega
    · intro h
      refine Nat.pos_of_ne_zero fun e => ?_
      have z := fb_sm_zero e
      have : fb_sm (fun s => P s v) (64 - 48 * q) = 0 := sm_zero fun s hs => by
        have := z s hs
        by_cases c : 0 < P s v
        · simp [c] at this
        · omega
      omega
theorem c_reach (hv : HV q A L P fl nf) {v : Nat} (h1 : 1 ≤ v) (h2 : v < 3001) {post : Int32 → Prop} (h : post (bI (decide (0 < aS P (64 - 48 * q) v)))) : v_X1_reaches q (nI v) A L post := by
  obtain ⟨k, e, hk, hz⟩ := c_hold hv h2
  unfold v_X1_reaches
  refine pk_lt v 1 (fun c => absurd c (by omega)) (fun _ => pk_lt 3000 v (fun c => absurd c (by omega)) (fun _ => ⟨pk_in v 3001 h2, ?_⟩))
  rw [nI_clamp (show v < 2 ^ 31 by omega), e]
  refine pk_le k 0 (fun c => ?_) (fun c => ?_)
  · rw [decide_eq_false (fun c2 => by have := hz.mpr c2; omega)] at h; exact h
  · rw [decide_eq_true (hz.mp c)] at h; exact h
theorem c_reachN {x : Int32} (hx : x.toInt < 1 ∨ 3000 < x.toInt) {post : Int32 → Prop} (h : post 0) : v_X1_reaches q x A L post := by
  unfold v_X1_reaches
  refine ⟨fun _ => h, fun c => ⟨fun _ => h, fun c2 => ?_⟩⟩
  rw [fa_lt] at c c2
  have e1 : (1 : Int32).toInt = 1 := by decide
  have e2 : (3000 : Int32).toInt = 3000 := by decide
  rw [e1] at c
  rw [e2] at c2
  omega
theorem c_count (hq : q < 2) (hv : HV q A L P fl nf) {s v : Nat} (h0 : 1 ≤ s) (hs : s < 64 - 48 * q) (h1 : 1 ≤ v) (h2 : v < 3001) {post : Int64 → Prop} (h : post (lN (P s v))) : v_X1_countOf q (nI s) (nI v) A L post := by
  unfold v_X1_countOf
  refine pk_lt s 1 (fun c => absurd c (by omega)) (fun _ => pk_le (64 - 48 * q) s (fun c => absurd c (by omega)) (fun _ => pk_lt v 1 (fun c => absurd c (by omega)) (fun _ => pk_le v 3000 (fun _ => ⟨pk_in s _ hs rfl (by omega), pk_in v 3001 h2, ?_⟩) (fun c => absurd c (by omega)))))
  rw [nI_clamp (show s < 2 ^ 31 by omega), nI_clamp (show v < 2 ^ 31 by omega), (hv.1 s hs).1 v h2]
  exact h
theorem c_countN {x y : Int32} (hy : y.toInt < 1 ∨ 3000 < y.toInt) {post : Int64 → Prop} (h : post 0) : v_X1_countOf q x y A L post := by
  unfold v_X1_countOf
  refine ⟨fun _ => h, fun _ => ⟨fun _ => h, fun _ => ⟨fun _ => h, fun c => ⟨fun c2 => ?_, fun _ => h⟩⟩⟩⟩
  rw [fa_lt] at c
  rw [fa_le] at c2
  have e1 : (1 : Int32).toInt = 1 := by decide
  have e2 : (3000 : Int32).toInt = 3000 := by decide
  rw [e1] at c
  rw [e2] at c2
  omega
theorem lpos {n : Nat} (h : n < 2 ^ 62) : lg_cmp (lN n) 0 ≤ 0 ↔ n = 0 := by
  rw [lg_cmp_le]
  have h9 := pk_lLE (a := n) (b := 0) (by omega) (by omega)
  exact h9.trans (by omega)
theorem HV.bd (hv : HV q A L P fl nf) {s v : Nat} (hs : s < 64 - 48 * q) (h2 : v < 3001) : P s v < 2 ^ 60 := (hv.1 s hs).2.2.1 v h2
theorem c_all (hq : q < 2) (hv : HV q A L P fl nf) (hz : P 0 = fun _ => 0) {v : Nat} (h1 : 1 ≤ v) (h2 : v < 3001) {post : Int64 → Prop} (h : post (lN (aS P (64 - 48 * q) v))) : v_X1_countOfAllSets q (nI v) A L post := by
  unfold v_X1_countOfAllSets
  refine pk_loop (σ := Int64) (fun n i s => v_X1_countOfAllSets_5 q (nI v) A L post n s (nI i)) (fun i s => 1 ≤ i ∧ s = lN (fb_sm (fun s => P s v) i)) (64 - 48 * q) 1 0 (by omega) ⟨Nat.le_refl _, by
    show _ = lN (0 + P 0 v)
    rw [hz]; rfl⟩ (fun n s hI => ?_) (fun n i s hi hI k => ?_)
  · unfold v_X1_countOfAllSets_5
    rw [hI.2]
    exact pk_le (64 - 48 * q) (64 - 48 * q) (fun _ => h) (fun c => absurd c (by omega))
  · unfold v_X1_countOfAllSets_5
    obtain ⟨hi1, hI⟩ := hI
    refine pk_le (64 - 48 * q) i (fun c => absurd c (by omega)) (fun _ => c_count hq hv hi1 hi h1 h2 (fun y2 e2 x4 e4 => ?_))
    have : x4 = nI (i + 1) := by rw [e4]; exact nI_1 i
    subst this
    refine k y2 ⟨by omega, ?_⟩
    rw [e2, hI, lN_add]
    rfl
theorem c_has (hq : q < 2) (hv : HV q A L P fl nf) {s v : Nat} (hs : s < 64 - 48 * q) (h1 : 1 ≤ v) (h2 : v < 3001) {post : Int32 → Prop} (h : post (bI (hS P (64 - 48 * q) s v))) : v_X1_has q (nI s) (nI v) A L post := by
  unfold v_X1_has
  unfold hS at h
  refine ⟨fun c => ?_, fun c => ?_⟩
  · have hs0 : s ≠ 0 := fun e => c (by rw [e]; rfl)
    rw [if_neg hs0] at h
    refine c_count hq hv (by omega) hs h1 h2 ?_
    have hb := hv.bd hs h2
    rw [lpos (by omega)]
    refine ⟨fun c => ?_, fun c => ?_⟩
    · rw [decide_eq_false (by omega)] at h; exact h
    · rw [decide_eq_true (by omega)] at h; exact h
  · have hs0 : s = 0 := (nI_eq (a := s) (b := 0) (by omega) (by omega)).mp c
    rw [if_pos hs0] at h
    refine c_reach hv h1 h2 ⟨?_, h⟩
    unfold bI
    split
    · exact Or.inr rfl
    · exact Or.inl rfl
theorem c_numbers (hq : q < 2) (hv : HV q A L P fl nf) {s : Nat} (hs : s < 64 - 48 * q) {post : Int32 → Prop} (h : post (nI (cN (hS P (64 - 48 * q) s) 3001))) : v_X1_numbersOf q (nI s) A L post := by
  unfold v_X1_numbersOf
  refine pk_loop (σ := Int32) (fun n i t => v_X1_numbersOf_4 q (nI s) A L post n t (nI i)) (fun i t => 1 ≤ i ∧ t = nI (cN (hS P (64 - 48 * q) s) i)) 3001 1 0 (by omega) ⟨Nat.le_refl _, rfl⟩ (fun n t hI => ?_) (fun n i t hi hI k => ?_)
  · unfold v_X1_numbersOf_4
    rw [hI.2]
    exact pk_lt 3000 3001 (fun _ => h) (fun c => absurd c (by omega))
  · unfold v_X1_numbersOf_4
    obtain ⟨hi1, hI⟩ := hI
    refine pk_lt 3000 i (fun c => absurd c (by omega)) (fun _ => c_has hq hv hs hi1 hi ?_)
    have nxt : ∀ x3 : Int32, x3 = nI i + 1 → x3 = nI (i + 1) := fun x3 ex => by rw [ex]; exact nI_1 i
    have st : cN (hS P (64 - 48 * q) s) (i + 1) = cN (hS P (64 - 48 * q) s) i + (if 1 ≤ i ∧ hS P (64 - 48 * q) s i = true then 1 else 0) := rfl
    refine ⟨fun c x3 e3 => ?_, fun c x2 e2 x3 e3 => ?_⟩
    · rw [nxt x3 e3]
      refine k t ⟨by omega, ?_⟩
      rw [st, bI_0.1 c, hI]
      simp
    · rw [nxt x3 e3]
      refine k x2 ⟨by omega, ?_⟩
      rw [st, bI_0.2 c, e2, hI, nI_1, if_pos ⟨hi1, rfl⟩]
theorem c_number (hq : q < 2) (hv : HV q A L P fl nf) {s : Nat} {x : Int32} (hs : s < 64 - 48 * q) {post : Int32 → Prop} (h : post (fF (pV (hS P (64 - 48 * q) s) x) (-1))) : v_X1_numberAt q (nI s) x A L post := by
  unfold v_X1_numberAt
  refine pk_loop (σ := Int32) (fun n i t => v_X1_numberAt_5 q (nI s) x A L post n t (nI i)) (fun i t => 1 ≤ i ∧ t = nI (cN (hS P (64 - 48 * q) s) i) ∧ ∀ j, j < i → pV (hS P (64 - 48 * q) s) x j = false) 3001 1 0 (by omega) ⟨Nat.le_refl _, rfl, fun j hj => by
    rw [show j = 0 by omega]; rfl⟩ (fun n t hI => ?_) (fun n i t hi hI k => ?_)
  · unfold v_X1_numberAt_5
    rw [fF_no hI.2.2] at h
    exact pk_lt 3000 3001 (fun _ => h) (fun c => absurd c (by omega))
  · unfold v_X1_numberAt_5
    obtain ⟨hi1, hI, hI2⟩ := hI
    refine pk_lt 3000 i (fun c => absurd c (by omega)) (fun _ => c_has hq hv hs hi1 hi ?_)
    have nxt : ∀ x3 : Int32, x3 = nI i + 1 → x3 = nI (i + 1) := fun x3 ex => by rw [ex]; exact nI_1 i
    have st : cN (hS P (64 - 48 * q) s) (i + 1) = cN (hS P (64 - 48 * q) s) i + (if 1 ≤ i ∧ hS P (64 - 48 * q) s i = true then 1 else 0) := rfl
    have more : pV (hS P (64 - 48 * q) s) x i = false → ∀ j, j < i + 1 → pV (hS P (64 - 48 * q) s) x j = false := fun h0 j hj => by
      by_cases e : j = i
      · rw [e]; exact h0
      · exact hI2 j (by omega)
    refine ⟨fun c x3 e3 => ?_, fun c => ⟨fun c2 x2 e2 x3 e3 => ?_, fun c2 => ?_⟩⟩
    · rw [nxt x3 e3]
      refine k t ⟨by omega, ?_, more ?_⟩
      · rw [st, bI_0.1 c, hI]; simp
      · unfold pV; rw [bI_0.1 c]; simp
    · rw [nxt x3 e3]
      refine k x2 ⟨by omega, ?_, more ?_⟩
      · rw [st, bI_0.2 c, e2, hI, nI_1, if_pos ⟨hi1, rfl⟩]
      · unfold pV; rw [← hI, decide_eq_false c2]; simp
    · rw [fF_yes hi hI2 (by unfold pV; rw [← hI, bI_0.2 c, decide_eq_true c2, decide_eq_true hi1]; rfl)] at h
      exact h
theorem c_least (hv : HV q A L P fl nf) {post : Int32 → Prop} (h : post (fF (pM fun v => decide (0 < aS P (64 - 48 * q) v)) 3001)) : v_X1_leastNotReached q A L post := by
  unfold v_X1_leastNotReached
  refine pk_loop (σ := Unit) (fun n i t => v_X1_leastNotReached_2 q A L post n (nI i)) (fun i t => 1 ≤ i ∧ ∀ j, j < i → pM (fun v => decide (0 < aS P (64 - 48 * q) v)) j = false) 3001 1 () (by omega) ⟨Nat.le_refl _, fun j hj => by
    rw [show j = 0 by omega]; rfl⟩ (fun n t hI => ?_) (fun n i t hi hI k => ?_)
  · unfold v_X1_leastNotReached_2
    rw [fF_no hI.2] at h
    exact pk_lt 3000 3001 (fun _ => h) (fun c => absurd c (by omega))
  · unfold v_X1_leastNotReached_2
    obtain ⟨hi1, hI2⟩ := hI
    refine pk_lt 3000 i (fun c => absurd c (by omega)) (fun _ => c_reach hv hi1 hi ?_)
    refine ⟨fun c x3 e3 => ?_, fun c => ?_⟩
    · have : x3 = nI (i + 1) := by rw [e3]; exact nI_1 i
      subst this
      refine k () ⟨by omega, fun j hj => ?_⟩
      by_cases e : j = i
      · subst e
        unfold pM
        dsimp only
        rw [bI_0.2 c]; simp
      · exact hI2 j (by omega)
    · rw [fF_yes hi hI2 (by unfold pM; dsimp only; rw [bI_0.1 c, decide_eq_true hi1]; rfl)] at h
      exact h
theorem c_first (hv : HV 0 A L P fl nf) {v : Nat} (h1 : 1 ≤ v) (h2 : v < 3001) {post : Int32 → Prop} (h : post (if bst (fun s => decide (0 < P s v)) 64 = 0 then -1 else nI (bst (fun s => decide (0 < P s v)) 64))) : v_X1_firstSet 0 (nI v) A L post := by
  unfold v_X1_firstSet
  generalize hp9 : (fun s => decide (0 < P s v)) = p at h
  have hp : ∀ s, p s = decide (0 < P s v) := fun s => by rw [← hp9]
  refine pk_loop (σ := Int32 × Int32) (fun n i t => v_X1_firstSet_8 0 (nI v) A L post n t.1 t.2 (nI i)) (fun i t => 1 ≤ i ∧ t.1 = (if bst p i = 0 then -1 else nI (bst p i)) ∧ t.2 = (if bst p i = 0 then 7 else nI (pb (bst p i)))) 64 1 (-1, 7) (by omega) ⟨Nat.le_refl _, by rw [if_pos (by simp [bst])], by rw [if_pos (by simp [bst])]⟩ (fun n t hI => ?_) (fun n i t hi hI k => ?_)
  · unfold v_X1_firstSet_8
    rw [hI.2.1]
    exact pk_le 64 64 (fun _ => h) (fun c => absurd c (by omega))
  · unfold v_X1_firstSet_8
    obtain ⟨hi1, hI, hI2⟩ := hI
    refine pk_le 64 i (fun c => absurd c (by omega)) (fun _ => c_count (by decide) hv hi1 (by omega) h1 h2 ?_)
    have nxt : ∀ x3 : Int32, x3 = nI i + 1 → x3 = nI (i + 1) := fun x3 ex => by rw [ex]; exact nI_1 i
    have st : bst p (i + 1) = if 1 ≤ i ∧ p i = true ∧ (bst p i = 0 ∨ pb i < pb (bst p i)) then i else bst p i := rfl
    have hb := hv.bd (s := i) (v := v) (by omega) h2
    rw [lpos (by omega)]
    have keep : ¬ (1 ≤ i ∧ p i = true ∧ (bst p i = 0 ∨ pb i < pb (bst p i))) → ∀ x3 : Int32, x3 = nI i + 1 → v_X1_firstSet_8 0 (nI v) A L post n t.1 t.2 x3 := fun hn x3 e3 => by
      rw [nxt x3 e3]
      refine k t ⟨by omega, ?_, ?_⟩
      · rw [st, if_neg hn]; exact hI
      · rw [st, if_neg hn]; exact hI2
    have pbi := pb_64 i hi
    have lb : bst p i < 64 := by rcases bst_lt p i with e | e <;> omega
    have pbb := pb_64 _ lb
    have e2 : t.2 = nI (if bst p i = 0 then 7 else pb (bst p i)) := by
      rw [hI2]; split <;> rfl
    refine ⟨fun c => keep fun hn => ?_, fun c => ?_⟩
    · have := hn.2.1
      rw [hp, c] at this
      exact absurd this (by decide)
    · have hpi : p i = true := by rw [hp]; exact decide_eq_true (by omega)
      refine s_bc (by omega) ?_
      rw [e2]
      refine pk_le (if bst p i = 0 then 7 else pb (bst p i)) (pb i) (fun c2 => ?_) (fun c2 => ?_) rfl rfl (by split <;> omega) (by omega)
      · have := keep (fun hn => by
          rcases hn.2.2 with e | e
          · rw [if_pos e] at c2; omega
          · split at c2 <;> omega)
        rw [e2] at this
        exact this
      · refine s_bc (by omega) (fun x4 e4 => ?_)
        rw [nxt x4 e4]
        have hcond : 1 ≤ i ∧ p i = true ∧ (bst p i = 0 ∨ pb i < pb (bst p i)) := ⟨hi1, hpi, by
          by_cases e : bst p i = 0
          · exact Or.inl e
          · rw [if_neg e] at c2; exact Or.inr c2⟩
        refine k (nI i, nI (pb i)) ⟨by omega, ?_, ?_⟩
        · rw [st, if_pos hcond, if_neg (by omega)]
        · rw [st, if_pos hcond, if_neg (by omega)]
theorem c_near (hv : HV q A L P fl nf) {v : Nat} (h1 : 1 ≤ v) (h2 : v < 3001) {post : Int32 → Prop} (h : ∀ r, NR (fun u => decide (0 < aS P (64 - 48 * q) u)) v r → post r) : v_X1_nearest q (nI v) A L post := by
  unfold v_X1_nearest
  generalize hp9 : (fun u => decide (0 < aS P (64 - 48 * q) u)) = p at h
  have hp : ∀ u, p u = decide (0 < aS P (64 - 48 * q) u) := fun u => by rw [← hp9]
  refine pk_loop (σ := Unit) (fun n i t => v_X1_nearest_2 q (nI v) A L post n (nI i)) (fun i t => ∀ u, 1 ≤ u → u < 3001 → dst v u < i → p u = false) 3001 0 () (by omega) (fun u _ _ hu => by omega) (fun n t hI => ?_) (fun n i t hi hI k => ?_)
  · unfold v_X1_nearest_2
    refine pk_lt 3000 3001 (fun _ => h _ (Or.inl ⟨rfl, fun u a b => hI u a b (by unfold dst; split <;> omega)⟩)) (fun c => absurd c (by omega))
  · unfold v_X1_nearest_2
    refine pk_lt 3000 i (fun c => absurd c (by omega)) (fun _ => ?_)
    have nxt : ∀ x3 : Int32, x3 = nI i + 1 → x3 = nI (i + 1) := fun x3 ex => by rw [ex]; exact nI_1 i
    have up : (v + i < 3001 → p (v + i) = false) → (i < v → p (v - i) = false) → ∀ x2 : Int32, x2 = nI i + 1 → v_X1_nearest_2 q (nI v) A L post n x2 := fun u1 u2 x2 e2 => by
      rw [nxt x2 e2]
      refine k () fun u a b hd => ?_
      by_cases e : dst v u = i
      · unfold dst at e
        split at e
        · rw [show u = v + i by omega]; exact u1 (by omega)
        · rw [show u = v - i by omega]; exact u2 (by omega)
      · exact hI u a b (by omega)
    have second : (i < v → p (v - i) = false) → v_X1_reaches q (nI v + nI i) A L (fun r => ((r = 0 → ∀ x2 : Int32, x2 = nI i + 1 → v_X1_nearest_2 q (nI v) A L post n x2) ∧ (¬ r = 0 → post (nI v + nI i)))) := fun u2 => by
      rw [nI_add]
      by_cases c : v + i < 3001
      · refine c_reach hv (by omega) c ⟨fun c2 => up (fun _ => by rw [hp]; exact bI_0.1 c2) u2, fun c2 => ?_⟩
        refine h _ (Or.inr ⟨v + i, rfl, by omega, c, by rw [hp]; exact bI_0.2 c2, fun u a b hu => ?_⟩)
        have e0 : dst v (v + i) = i := by unfold dst; rw [if_pos (by omega)]; omega
        rw [e0]
        refine ⟨Nat.le_of_not_lt fun c3 => by rw [hI u a b c3] at hu; exact absurd hu (by decide), fun e => ?_⟩
        unfold dst at e
        split at e
        · omega
        · have := u2 (by omega)
          rw [show u = v - i by omega, this] at hu
          exact absurd hu (by decide)
      · refine c_reachN (Or.inr (by rw [nI_toInt (by omega)]; omega)) ⟨fun _ => up (fun c2 => absurd c2 c) u2, fun c2 => absurd rfl c2⟩
    by_cases c : i < v
    · rw [pk_sub (by omega)]
      refine c_reach hv (by omega) (by omega) ⟨fun c2 => second (fun _ => by rw [hp]; exact bI_0.1 c2), fun c2 => ?_⟩
      refine h _ (Or.inr ⟨v - i, rfl, by omega, by omega, by rw [hp]; exact bI_0.2 c2, fun u a b hu => ?_⟩)
      have e0 : dst v (v - i) = i := by unfold dst; split <;> omega
      rw [e0]
      refine ⟨Nat.le_of_not_lt fun c3 => by rw [hI u a b c3] at hu; exact absurd hu (by decide), fun e => ?_⟩
      unfold dst at e
      split at e <;> omega
    · refine c_reachN (Or.inl ?_) ⟨fun _ => second (fun c2 => absurd c2 c), fun c2 => absurd rfl c2⟩
      rw [pk_sub_toInt (by omega) (by omega)]
      omega
end CR
