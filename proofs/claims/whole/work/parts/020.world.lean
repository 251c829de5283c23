/-! MY WORLD: the cells of class and reference by tags 0 .. 200; the ints and longs that they hold are a memory: tag, place -/
abbrev xM : Type := Nat → Nat → Int32
abbrev xL : Type := Nat → Nat → Int64
def xu (A : xM) (k j : Nat) (v : Int32) : xM := fun a b => if a = k ∧ b = j then v else A a b
def xul (L : xL) (k j : Nat) (v : Int64) : xL := fun a b => if a = k ∧ b = j then v else L a b
theorem xu_up (A : xM) (k j : Nat) (v : Int32) : va_up A k (upd (A k) j v) = xu A k j v := by
  funext a b
  by_cases h : a = k
  · subst h
    by_cases h2 : b = j
    · subst h2; simp [va_up, upd, xu]
    · simp [va_up, upd, xu, h2]
  · simp [va_up, xu, h]
theorem xul_up (L : xL) (k j : Nat) (v : Int64) : va_up L k (vp_updL (L k) j v) = xul L k j v := by
  funext a b
  by_cases h : a = k
  · subst h
    by_cases h2 : b = j
    · subst h2; simp [va_up, vp_updL, xul]
    · simp [va_up, vp_updL, xul, h2]
  · simp [va_up, xul, h]
theorem va_up_same {α : Type} (f : Nat → α) (k : Nat) : va_up f k (f k) = f := by
  funext j
  by_cases h : j = k
  · subst h; simp [va_up]
  · simp [va_up, h]
def xR (ad : Nat → Nat) (n b : Nat) : Nat → Option Nat := fun i => if i < n then some (ad (b + i)) else none
def xia (cT : Nat → ClassId) (n : Nat) (a : Nat → Int32) : va_E := .inl (cT 0, n, .inl a)
def xca (cT : Nat → ClassId) (n : Nat) (a : Nat → Int32) : va_E := .inl (cT 2, n, .inl a)
def xla (cT : Nat → ClassId) (n : Nat) (lo : Nat → Int64) : va_E := .inl (cT 1, n, .inr (.inl lo))
def xra (cT : Nat → ClassId) (c n : Nat) (f : Nat → Option Nat) : va_E := .inl (cT c, n, .inr (.inr (.inr (.inr f))))
def xfs (ad : Nat → Nat) (a : Nat → Int32) : Nat → List Value := fun k => match k with
  | 0 => [.ref (ad 1), .ref (ad 2), .ref (ad 8), .ref (ad 14), .ref (ad 18), .ref (ad 20)]
  | 1 => [.int (a 0), .int (a 1)]
  | 2 => [.ref (ad 1), .ref (ad 3), .ref (ad 4), .ref (ad 5), .ref (ad 6), .ref (ad 7), .int (a 6), .int (a 7)]
  | 3 => [.ref (ad 1), .ref (ad 9), .ref (ad 10), .ref (ad 11), .ref (ad 12), .ref (ad 13), .int (a 6), .int (a 7)]
  | 4 => [.ref (ad 8), .ref (ad 15), .int (a 2), .ref (ad 16), .ref (ad 17), .int (a 5)]
  | 5 => [.ref (ad 19), .int (a 1)]
  | 6 => [.ref (ad 21), .ref (ad 22), .int (a 2), .int (a 3)]
  | _ => [.int (a 0), .ref (ad 24), .int (a 2), .int (a 3), .int (a 4), .ref (ad 25), .ref (ad 26), .int (a 7), .ref (ad 27), .int (a 9), .ref (ad 28), .ref (ad 29), .ref (ad 30), .int (a 13), .ref (ad 31), .ref (ad 32), .int (a 16), .ref (ad 33), .ref (ad 34), .ref (ad 35)]
/-- the cells, by tag: 0 the object, 1 its rules, 2 the heap (3 .. 7), 8 the trial heap (9 .. 13), 14 the box (15 .. 17), 18 the out (19), 20 the signs (21, 22), 23 the reference (24 .. 35), 36 .. 200 the rows of the grids -/
def xF (cT : Nat → ClassId) (ad : Nat → Nat) (a : Nat → Int32) (lo : Nat → Int64) (k : Nat) : va_E :=
  if k < 36 then
    ([.inr (5, xfs ad a 0), .inr (3, xfs ad a 1),
      .inr (1, xfs ad a 2), xia cT 6 a, xra cT 4 64 (xR ad 64 36), xra cT 3 64 (xR ad 64 100), xia cT 64 a, xia cT 3001 a,
      .inr (1, xfs ad a 3), xia cT 4 a, xra cT 4 16 (xR ad 16 164), xra cT 3 16 (xR ad 16 180), xia cT 16 a, xia cT 3001 a,
      .inr (0, xfs ad a 4), xia cT 10 a, xra cT 3 5 (xR ad 5 196), xia cT 5 a,
      .inr (2, xfs ad a 5), xca cT 33 a, .inr (4, xfs ad a 6), xia cT 5041 a, xia cT 5041 a,
      .inr (6, xfs ad a 7), xia cT 6 a, xia cT 10 a, xia cT 100 a, xia cT 6 a, xla cT 192064 lo, xia cT 3001 a, xia cT 3001 a, xia cT 40 a, xia cT 40 a, xia cT 101 a, xia cT 5041 a, xia cT 5041 a] : List va_E).getD k (.inr (0, []))
  else if k < 100 then xla cT 3001 lo else if k < 164 then xia cT 3000 a else if k < 180 then xla cT 3001 lo else if k < 196 then xia cT 3000 a else xia cT 3001 a
abbrev xGt : Type := va_G × (Nat → ClassId) × (Nat → Nat) × Nat × Nat × Nat
def xcT (G : xGt) : Nat → ClassId := G.2.1
def xad (G : xGt) : Nat → Nat := G.2.2.1
def xb0 (G : xGt) : Nat := G.2.2.2.1
/-- where the marks' String and its bytes lie -/
def xaK (G : xGt) : Nat := G.2.2.2.2.1
def xaV (G : xGt) : Nat := G.2.2.2.2.2
def xAf (G : xGt) : Nat → Prop := fun q => xb0 G ≤ q
def xtys (G : xGt) : List (ClassId × FieldType) := [(xcT G 0, .int), (xcT G 1, .long), (xcT G 2, .char), (xcT G 3, .array .int), (xcT G 4, .array .long)]
def xE (G : xGt) (A : xM) (L : xL) : Nat → va_E := fun k => xF (xcT G) (xad G) (A k) (L k) k
def xw (G : xGt) (E : Nat → va_E) : va_W := (List.range 201).map (fun k => (xad G k, E k))
def xnest : List Cond := [.fieldLinkNest RX5 55 RX1 "size" "I" RX5, .fieldLinkNest RX5 71 RX3 "acts" "I" RX5, .fieldLinkNest RX5 74 RX3 "most" "I" RX5, .fieldLinkNest RX1 75 RX3 "most" "I" RX5, .fieldLinkNest RX5 83 RX0 "size" "I" RX5, .fieldLinkNest RX5 84 RX2 "length" "I" RX5, .methodLinkNest RX5 39 yX2_init RX5, .methodLinkNest RX5 46 yX4_init RX5, .methodLinkNest RX5 9 yX3_init RX5, .methodLinkNest RX1 98 yX5_rightNumber RX5, .methodLinkNest RX4 25 yX5_isOutside RX5]
def xisn (w : Cond) : Bool := match w with
  | .fieldLinkNest _ _ _ _ _ _ => true
  | .methodLinkNest _ _ _ _ => true
  | _ => false
theorem xisn_warm {w : Cond} (h : xisn w = true) {s U : State} (hW : s.WarmedH U.vm) (hZ : va_Nw w s) : va_Nw w U := by
  cases w <;> first | exact va_Nw.warmF hW hZ | exact va_Nw.warmM hW hZ | (exfalso; revert h; simp [xisn])
theorem xisn_same {w : Cond} (h : xisn w = true) {s U : State} (hv : s.vm = U.vm) (hZ : va_Nw w s) : va_Nw w U := by
  cases w <;> first | exact va_Nw.same rfl hv hZ | (exfalso; revert h; simp [xisn])
theorem xnest_is : ∀ w ∈ xnest, xisn w = true := by
  intro w h
  simp only [xnest, List.mem_cons, List.not_mem_nil, or_false] at h
  rcases h with rfl | rfl | rfl | rfl | rfl | rfl | rfl | rfl | rfl | rfl | rfl <;> rfl
def xmk : Nat → Int32 := fun j => ([43, 45, 42, 47] : List Int32).getD j 0
def xT (G : xGt) (U : State) (H : Heap) : Prop := vk_R RX5 183 "+-*/" (xaK G) U ∧ va_O "java/lang/String" (xaK G) (xAf G) U H ∧ va_OF "java/lang/String" "coder" "B" (.int 0) (xaK G) (xAf G) U H ∧ va_OF "java/lang/String" "value" "[B" (.ref (xaV G)) (xaK G) (xAf G) U H ∧ va_T .byte (xaV G) 4 (fun j => .int (xmk j)) (xAf G) U H ∧ va_Z "java/lang/String" "COMPACT_STRINGS" "Z" (.int 1) (xAf G) U H ∧ va_Zq "jdk/internal/util/Preconditions" "SIOOBE_FORMATTER" "Ljava/util/function/BiFunction;" (xAf G) U H
theorem xT.to {G : xGt} {u U : State} {H : Heap} (h : xT G u u.heap) (hW : u.WarmedH U.vm) (hq : ∀ a : Nat, a < u.heap.size → ¬ xAf G a → H[a]? = u.heap[a]?) : xT G U H :=
  ⟨h.1.warm hW, (va_O.moved hW.alike h.2.1).kept hq, (va_OF.moved hW.alike h.2.2.1).kept hq, (va_OF.moved hW.alike h.2.2.2.1).kept hq, (va_T.moved hW.alike h.2.2.2.2.1).kept hq, (va_Z.moved hW.alike h.2.2.2.2.2.1).kept hq, (va_Zq.moved hW.alike h.2.2.2.2.2.2).kept hq⟩
theorem xT.same {G : xGt} {u U : State} (h : xT G u u.heap) (hv : U.vm = u.vm) (hh : U.heap = u.heap) : xT G U U.heap := by
  have ha : u.vm.Alike U.vm := by rw [hv]; exact Vm.Alike.refl u.vm
  rw [hh]
  exact ⟨vk_R.same hv h.1, va_O.moved ha h.2.1, va_OF.moved ha h.2.2.1, va_OF.moved ha h.2.2.2.1, va_T.moved ha h.2.2.2.2.1, va_Z.moved ha h.2.2.2.2.2.1, va_Zq.moved ha h.2.2.2.2.2.2⟩
def xS (G : xGt) (s : State) : Prop := va_K G.1 vwCl (xtys G) s ∧ (∀ i j, i < 201 → j < 201 → xad G i = xad G j → i = j) ∧ (∀ i, i < 201 → xb0 G ≤ xad G i) ∧ (∀ w ∈ xnest, va_Nw w s) ∧ xT G s s.heap
def xW (G : xGt) (H0 : Heap) (A : xM) (L : xL) (H : Heap) (locs : List Loc) : Prop := va_P G.1 vwCl (xw G (xE G A L)) H ∧ va_S (xAf G) H0 H locs
theorem xw_at {G : xGt} {E : Nat → va_E} {k : Nat} (h : k < 201) : (xw G E)[k]? = some (xad G k, E k) := by
  unfold xw
  rw [List.getElem?_map, List.getElem?_range h]
  rfl
theorem xw_of {G : xGt} {E : Nat → va_E} {k : Nat} {q : Nat × va_E} (h : (xw G E)[k]? = some q) : k < 201 ∧ q = (xad G k, E k) := by
  have hk : k < 201 := by
    have := (List.getElem?_eq_some_iff.mp h).1
    simpa [xw] using this
  rw [xw_at hk] at h
  exact ⟨hk, (Option.some.inj h).symm⟩
theorem xw_set {G : xGt} {E : Nat → va_E} {k : Nat} (h : k < 201) (e : va_E) : (xw G E).set k (xad G k, e) = xw G (va_up E k e) := by
  apply List.ext_getElem?
  intro j
  by_cases hj : j < 201
  · rw [xw_at hj]
    by_cases hk : k = j
    · subst hk
      rw [List.getElem?_set_self (by simp [xw]; exact h)]
      simp [va_up]
    · rw [List.getElem?_set_ne hk, xw_at hj]
      simp [va_up, Ne.symm hk]
  · rw [List.getElem?_eq_none (by simp [xw]; omega), List.getElem?_eq_none (by simp [xw]; omega)]
theorem xw_D {G : xGt} {s : State} (hG : xS G s) (E : Nat → va_E) : va_D (xAf G) (xw G E) := by
  refine ⟨fun i j p q hp hq e => ?_, fun k q hq => ?_⟩
  · obtain ⟨h1, rfl⟩ := xw_of hp
    obtain ⟨h2, rfl⟩ := xw_of hq
    exact hG.2.1 i j h1 h2 e
  · obtain ⟨h1, rfl⟩ := xw_of hq
    exact hG.2.2.1 k h1
theorem xE_up {G : xGt} {A : xM} {L : xL} {k : Nat} {f : Nat → Int32} {g : Nat → Int64} {e : va_E} (he : e = xF (xcT G) (xad G) f g k) : va_up (xE G A L) k e = xE G (va_up A k f) (va_up L k g) := by
  funext j
  by_cases h : j = k
  · subst h
    simp [va_up, xE, he]
  · simp [va_up, xE, h]
theorem xS.to {G : xGt} {u U : State} {H : Heap} {locs : List Loc} (hW : u.WarmedH U.vm) (hS : va_S (xAf G) u.heap H locs) (hU : U.heap = H) (h : xS G u) : xS G U := ⟨va_K.moved hW.alike h.1, h.2.1, h.2.2.1, fun w hw => xisn_warm (xnest_is w hw) hW (h.2.2.2.1 w hw), by rw [hU]; exact h.2.2.2.2.to hW hS.2.1⟩
/-- which tag is what -/
def xIA (k n : Nat) : Prop := k < 201 ∧ ∀ cT ad a lo, xF cT ad a lo k = .inl (cT 0, n, .inl a)
def xCA (k n : Nat) : Prop := k < 201 ∧ ∀ cT ad a lo, xF cT ad a lo k = .inl (cT 2, n, .inl a)
def xLA (k n : Nat) : Prop := k < 201 ∧ ∀ cT ad a lo, xF cT ad a lo k = .inl (cT 1, n, .inr (.inl lo))
def xRA (k c n b : Nat) : Prop := k < 201 ∧ ∀ cT ad a lo, xF cT ad a lo k = .inl (cT c, n, .inr (.inr (.inr (.inr (xR ad n b)))))
def xOB (k ci t : Nat) : Prop := k < 201 ∧ ∀ cT ad a lo, xF cT ad a lo k = .inr (ci, xfs ad a t)
theorem xO0 : xOB 0 5 0 := ⟨by decide, fun _ _ _ _ => rfl⟩
theorem xO1 : xOB 1 3 1 := ⟨by decide, fun _ _ _ _ => rfl⟩
theorem xOh {q : Nat} (hq : q < 2) : xOB (2 + 6 * q) 1 (2 + q) := by
  rcases (show q = 0 ∨ q = 1 by omega) with rfl | rfl
  · exact ⟨by decide, fun _ _ _ _ => rfl⟩
  · exact ⟨by decide, fun _ _ _ _ => rfl⟩
theorem xO14 : xOB 14 0 4 := ⟨by decide, fun _ _ _ _ => rfl⟩
theorem xO18 : xOB 18 2 5 := ⟨by decide, fun _ _ _ _ => rfl⟩
theorem xO20 : xOB 20 4 6 := ⟨by decide, fun _ _ _ _ => rfl⟩
theorem xO23 : xOB 23 6 7 := ⟨by decide, fun _ _ _ _ => rfl⟩
theorem xhI {q : Nat} (hq : q < 2) : xIA (3 + 6 * q) (6 - 2 * q) := by
  rcases (show q = 0 ∨ q = 1 by omega) with rfl | rfl <;> exact ⟨by decide, fun _ _ _ _ => rfl⟩
theorem xhC {q : Nat} (hq : q < 2) : xRA (4 + 6 * q) 4 (64 - 48 * q) (36 + 128 * q) := by
  rcases (show q = 0 ∨ q = 1 by omega) with rfl | rfl <;> exact ⟨by decide, fun _ _ _ _ => rfl⟩
theorem xhF {q : Nat} (hq : q < 2) : xRA (5 + 6 * q) 3 (64 - 48 * q) (100 + 80 * q) := by
  rcases (show q = 0 ∨ q = 1 by omega) with rfl | rfl <;> exact ⟨by decide, fun _ _ _ _ => rfl⟩
theorem xhN {q : Nat} (hq : q < 2) : xIA (6 + 6 * q) (64 - 48 * q) := by
  rcases (show q = 0 ∨ q = 1 by omega) with rfl | rfl <;> exact ⟨by decide, fun _ _ _ _ => rfl⟩
theorem xhH {q : Nat} (hq : q < 2) : xIA (7 + 6 * q) 3001 := by
  rcases (show q = 0 ∨ q = 1 by omega) with rfl | rfl <;> exact ⟨by decide, fun _ _ _ _ => rfl⟩
theorem vp_lt {i : Int32} {n : Nat} (h : vp_in i n) : i.toNatClampNeg < n := Nat.not_le.mp fun q => h (Or.inr q)
theorem xrC {q : Nat} (hq : q < 2) {i : Int32} (h : vp_in i (64 - 48 * q)) : xLA (36 + 128 * q + i.toNatClampNeg) 3001 := by
  have h1 := vp_lt h
  generalize i.toNatClampNeg = j at h1
  rcases (show q = 0 ∨ q = 1 by omega) with rfl | rfl
  · refine ⟨by omega, fun _ _ _ _ => ?_⟩
    unfold xF
    rw [if_neg (by omega), if_pos (by omega)]
    rfl
  · refine ⟨by omega, fun _ _ _ _ => ?_⟩
    unfold xF
    rw [if_neg (by omega), if_neg (by omega), if_neg (by omega), if_pos (by omega)]
    rfl
theorem xrF {q : Nat} (hq : q < 2) {i : Int32} (h : vp_in i (64 - 48 * q)) : xIA (100 + 80 * q + i.toNatClampNeg) 3000 := by
  have h1 := vp_lt h
  generalize i.toNatClampNeg = j at h1
  rcases (show q = 0 ∨ q = 1 by omega) with rfl | rfl
  · refine ⟨by omega, fun _ _ _ _ => ?_⟩
    unfold xF
    rw [if_neg (by omega), if_neg (by omega), if_pos (by omega)]
    rfl
  · refine ⟨by omega, fun _ _ _ _ => ?_⟩
    unfold xF
    rw [if_neg (by omega), if_neg (by omega), if_neg (by omega), if_neg (by omega), if_pos (by omega)]
    rfl
theorem xrT0 {j : Nat} (h1 : j < 5) : xIA (196 + j) 3001 := by
  refine ⟨by omega, fun _ _ _ _ => ?_⟩
  unfold xF
  rw [if_neg (by omega), if_neg (by omega), if_neg (by omega), if_neg (by omega), if_neg (by omega)]
  rfl
theorem xrT {i : Int32} (h : vp_in i 5) : xIA (196 + i.toNatClampNeg) 3001 := xrT0 (vp_lt h)
theorem xb15 : xIA 15 10 := ⟨by decide, fun _ _ _ _ => rfl⟩
theorem xb16 : xRA 16 3 5 196 := ⟨by decide, fun _ _ _ _ => rfl⟩
theorem xb17 : xIA 17 5 := ⟨by decide, fun _ _ _ _ => rfl⟩
theorem xb19 : xCA 19 33 := ⟨by decide, fun _ _ _ _ => rfl⟩
theorem xb21 : xIA 21 5041 := ⟨by decide, fun _ _ _ _ => rfl⟩
theorem xb22 : xIA 22 5041 := ⟨by decide, fun _ _ _ _ => rfl⟩
theorem xb24 : xIA 24 6 := ⟨by decide, fun _ _ _ _ => rfl⟩
theorem xb25 : xIA 25 10 := ⟨by decide, fun _ _ _ _ => rfl⟩
theorem xb26 : xIA 26 100 := ⟨by decide, fun _ _ _ _ => rfl⟩
theorem xb27 : xIA 27 6 := ⟨by decide, fun _ _ _ _ => rfl⟩
theorem xb28 : xLA 28 192064 := ⟨by decide, fun _ _ _ _ => rfl⟩
theorem xb29 : xIA 29 3001 := ⟨by decide, fun _ _ _ _ => rfl⟩
theorem xb30 : xIA 30 3001 := ⟨by decide, fun _ _ _ _ => rfl⟩
theorem xb31 : xIA 31 40 := ⟨by decide, fun _ _ _ _ => rfl⟩
theorem xb32 : xIA 32 40 := ⟨by decide, fun _ _ _ _ => rfl⟩
theorem xb33 : xIA 33 101 := ⟨by decide, fun _ _ _ _ => rfl⟩
theorem xb34 : xIA 34 5041 := ⟨by decide, fun _ _ _ _ => rfl⟩
theorem xb35 : xIA 35 5041 := ⟨by decide, fun _ _ _ _ => rfl⟩
theorem xf_h0 {q : Nat} (hq : q < 2) {ad : Nat → Nat} {a : Nat → Int32} : (xfs ad a (2 + q))[0]? = some (.ref (ad 1)) := by
  rcases (show q = 0 ∨ q = 1 by omega) with rfl | rfl <;> rfl
theorem xf_h1 {q : Nat} (hq : q < 2) {ad : Nat → Nat} {a : Nat → Int32} : (xfs ad a (2 + q))[1]? = some (.ref (ad (3 + 6 * q))) := by
  rcases (show q = 0 ∨ q = 1 by omega) with rfl | rfl <;> rfl
theorem xf_h2 {q : Nat} (hq : q < 2) {ad : Nat → Nat} {a : Nat → Int32} : (xfs ad a (2 + q))[2]? = some (.ref (ad (4 + 6 * q))) := by
  rcases (show q = 0 ∨ q = 1 by omega) with rfl | rfl <;> rfl
theorem xf_h3 {q : Nat} (hq : q < 2) {ad : Nat → Nat} {a : Nat → Int32} : (xfs ad a (2 + q))[3]? = some (.ref (ad (5 + 6 * q))) := by
  rcases (show q = 0 ∨ q = 1 by omega) with rfl | rfl <;> rfl
theorem xf_h4 {q : Nat} (hq : q < 2) {ad : Nat → Nat} {a : Nat → Int32} : (xfs ad a (2 + q))[4]? = some (.ref (ad (6 + 6 * q))) := by
  rcases (show q = 0 ∨ q = 1 by omega) with rfl | rfl <;> rfl
theorem xf_h5 {q : Nat} (hq : q < 2) {ad : Nat → Nat} {a : Nat → Int32} : (xfs ad a (2 + q))[5]? = some (.ref (ad (7 + 6 * q))) := by
  rcases (show q = 0 ∨ q = 1 by omega) with rfl | rfl <;> rfl
theorem xf_v6 {q : Nat} (hq : q < 2) {ad : Nat → Nat} {a : Nat → Int32} : (xfs ad a (2 + q))[6]? = some (.int (a 6)) := by
  rcases (show q = 0 ∨ q = 1 by omega) with rfl | rfl <;> rfl
theorem xf_v7 {q : Nat} (hq : q < 2) {ad : Nat → Nat} {a : Nat → Int32} : (xfs ad a (2 + q))[7]? = some (.int (a 7)) := by
  rcases (show q = 0 ∨ q = 1 by omega) with rfl | rfl <;> rfl
theorem xf_s6 {q : Nat} (hq : q < 2) (ad : Nat → Nat) (a : Nat → Int32) (v : Int32) : (xfs ad a (2 + q)).set 6 (.int v) = xfs ad (upd a 6 v) (2 + q) := by
  rcases (show q = 0 ∨ q = 1 by omega) with rfl | rfl <;> rfl
theorem xf_s7 {q : Nat} (hq : q < 2) (ad : Nat → Nat) (a : Nat → Int32) (v : Int32) : (xfs ad a (2 + q)).set 7 (.int v) = xfs ad (upd a 7 v) (2 + q) := by
  rcases (show q = 0 ∨ q = 1 by omega) with rfl | rfl <;> rfl
theorem xf_l {q : Nat} (hq : q < 2) {ad : Nat → Nat} {a : Nat → Int32} (j : Nat) (hj : j < 8) : j < (xfs ad a (2 + q)).length := by
  rcases (show q = 0 ∨ q = 1 by omega) with rfl | rfl <;> exact hj
/-! ROWS -/
def xPre (G : xGt) (A : xM) (L : xL) : State → Prop := fun U => va_P G.1 vwCl (xw G (xE G A L)) U.heap ∧ xS G U
def xQi (G : xGt) (post : Int32 → xM → xL → Prop) : Array Value → State → Outcome → State → Prop := va_Qi (fun r (u : xM × xL) => post r u.1 u.2) (fun u => xPre G u.1 u.2) (xAf G)
def xQl (G : xGt) (post : Int64 → xM → xL → Prop) : Array Value → State → Outcome → State → Prop := va_Ql (fun r (u : xM × xL) => post r u.1 u.2) (fun u => xPre G u.1 u.2) (xAf G)
def xQv (G : xGt) (post : xM → xL → Prop) : Array Value → State → Outcome → State → Prop := va_Qv (fun (u : xM × xL) => post u.1 u.2) (fun u => xPre G u.1 u.2) (xAf G)
/-- the end of a method that writes nothing -/
def xpi (A : xM) (L : xL) (post : Int32 → Prop) : Int32 → xM → xL → Prop := fun r A1 L1 => post r ∧ A1 = A ∧ L1 = L
def xpl (A : xM) (L : xL) (post : Int64 → Prop) : Int64 → xM → xL → Prop := fun r A1 L1 => post r ∧ A1 = A ∧ L1 = L
theorem xPre_blind {G : xGt} {A : xM} {L : xL} {av : List Value} : FrameBlind (va_Pc av (xPre G A L)) := fun a U g mk q => ⟨q.1, q.2.1, va_K.moved (u := U) (U := U.calling g mk a) (Vm.Alike.refl U.vm) q.2.2.1, q.2.2.2.1, q.2.2.2.2.1, fun w hw => xisn_same (xnest_is w hw) (s := U) (U := U.calling g mk a) rfl (q.2.2.2.2.2.1 w hw), q.2.2.2.2.2.2.same (U := U.calling g mk a) rfl rfl⟩
/-- what a method's walk knows all the time -/
def xC (p : Program) (s : State) (m : MethodId) (args : Array Value) (meth : Method) (c : Code) (G : xGt) (cc : ByteArray) (ret : Option FieldType) (ws : List Cond) (own : String) (nL : Nat) : Prop :=
  p.tables.exec = Jvm.exec ∧ c.code = cc ∧ meth.sig.returnType = ret ∧ (∀ w ∈ ws, w.before args s = true) ∧ s.vm.findClass own = some m.cls ∧ c.maxLocals = nL ∧ meth.locks = false ∧ xS G s
section XR
variable {p : Program} {l : Launch} {e : Env} {R : Room} {s : State} {m : MethodId} {args : Array Value} {below : List Frame} {meth : Method} {c : Code} {H : Heap} {locs : List Loc} {cells slots : Nat} {Q : State → Prop}
variable {cc : ByteArray} {pc : Nat} {ls : Array Slot} {rest : List Value} {G : xGt} {H0 : Heap} {A : xM} {L : xL}
theorem x_iald (hx : p.tables.exec = Jvm.exec) (hb : c.code = cc) (hG : xS G s) (hw : xW G H0 A L H locs) {k n : Nat} (hk : xIA k n) {i : Int32} (hin : vp_in i n) (hdg : decode cc pc = .ok (.iaload, 1))
    (kk : W p l e R s m args below meth c H locs cells slots Q (F0 m (pc + 1) ls (.int (A k i.toNatClampNeg) :: rest))) : W p l e R s m args below meth c H locs cells slots Q (F0 m pc ls (.int i :: .ref (xad G k) :: rest)) :=
  va_iald hx hb hG.1 hw.1 k 0 (f := A k) (cA := xcT G 0) (n := n) (by rw [xw_at hk.1]; unfold xE; rw [hk.2]) rfl hin hdg kk
theorem x_cald (hx : p.tables.exec = Jvm.exec) (hb : c.code = cc) (hG : xS G s) (hw : xW G H0 A L H locs) {k n : Nat} (hk : xCA k n) {i : Int32} (hin : vp_in i n) (hdg : decode cc pc = .ok (.caload, 1))
    (kk : W p l e R s m args below meth c H locs cells slots Q (F0 m (pc + 1) ls (.int (A k i.toNatClampNeg) :: rest))) : W p l e R s m args below meth c H locs cells slots Q (F0 m pc ls (.int i :: .ref (xad G k) :: rest)) :=
  va_cald hx hb hG.1 hw.1 k 2 (f := A k) (cA := xcT G 2) (n := n) (by rw [xw_at hk.1]; unfold xE; rw [hk.2]) rfl hin hdg kk
theorem x_lald (hx : p.tables.exec = Jvm.exec) (hb : c.code = cc) (hG : xS G s) (hw : xW G H0 A L H locs) {k n : Nat} (hk : xLA k n) {i : Int32} (hin : vp_in i n) (hdg : decode cc pc = .ok (.laload, 1))
    (kk : W p l e R s m args below meth c H locs cells slots Q (F0 m (pc + 1) ls (.long (L k i.toNatClampNeg) :: rest))) : W p l e R s m args below meth c H locs cells slots Q (F0 m pc ls (.int i :: .ref (xad G k) :: rest)) :=
  va_lald hx hb hG.1 hw.1 k 1 (f := L k) (cA := xcT G 1) (n := n) (by rw [xw_at hk.1]; unfold xE; rw [hk.2]) rfl hin hdg kk
theorem x_aald (hx : p.tables.exec = Jvm.exec) (hb : c.code = cc) (hG : xS G s) (hw : xW G H0 A L H locs) {k ci n b : Nat} (hk : xRA k ci n b) (ty : FieldType) (ht : (xtys G)[ci]? = some (xcT G ci, .array ty)) {i : Int32} (hin : vp_in i n) (hdg : decode cc pc = .ok (.aaload, 1))
    (kk : W p l e R s m args below meth c H locs cells slots Q (F0 m (pc + 1) ls (.ref (xad G (b + i.toNatClampNeg)) :: rest))) : W p l e R s m args below meth c H locs cells slots Q (F0 m pc ls (.int i :: .ref (xad G k) :: rest)) := by
  have hlt := vp_lt hin
  have hat : (xw G (xE G A L))[k]? = some (xad G k, .inl (xcT G ci, n, .inr (.inr (.inr (.inr (xR (xad G) n b)))))) := by rw [xw_at hk.1]; unfold xE; rw [hk.2]
  exact W.aald (v := .ref (xad G (b + i.toNatClampNeg))) (ty := .array ty) hx hb (hw.1 k _ hat) ((hG.1.2 ci _ ht).1 n (fun j => va_rf (xR (xad G) n b j))) rfl (fun q => by cases q) (by show ¬ (i < 0 ∨ (arrV _ _ _).slots.size ≤ _); rw [arrV_size]; exact hin) (by show (arrV _ _ _).slots[_]? = _; rw [arrV_read _ _ hlt]; simp [xR, hlt, va_rf]) rfl rfl hdg kk
theorem x_alenI (hx : p.tables.exec = Jvm.exec) (hb : c.code = cc) (hG : xS G s) (hw : xW G H0 A L H locs) {k n : Nat} (hk : xIA k n) (hdg : decode cc pc = .ok (.arraylength, 1))
    (kk : W p l e R s m args below meth c H locs cells slots Q (F0 m (pc + 1) ls (.int (nI n) :: rest))) : W p l e R s m args below meth c H locs cells slots Q (F0 m pc ls (.ref (xad G k) :: rest)) :=
  va_alen hx hb hG.1 hw.1 k 0 (cA := xcT G 0) (x := (n, .inl (A k))) (by rw [xw_at hk.1]; unfold xE; rw [hk.2]) (ty := .int) rfl rfl hdg kk
theorem x_alenC (hx : p.tables.exec = Jvm.exec) (hb : c.code = cc) (hG : xS G s) (hw : xW G H0 A L H locs) {k n : Nat} (hk : xCA k n) (hdg : decode cc pc = .ok (.arraylength, 1))
    (kk : W p l e R s m args below meth c H locs cells slots Q (F0 m (pc + 1) ls (.int (nI n) :: rest))) : W p l e R s m args below meth c H locs cells slots Q (F0 m pc ls (.ref (xad G k) :: rest)) :=
  va_alen hx hb hG.1 hw.1 k 2 (cA := xcT G 2) (x := (n, .inl (A k))) (by rw [xw_at hk.1]; unfold xE; rw [hk.2]) (ty := .char) rfl rfl hdg kk
theorem x_alenR (hx : p.tables.exec = Jvm.exec) (hb : c.code = cc) (hG : xS G s) (hw : xW G H0 A L H locs) {k ci n b : Nat} (hk : xRA k ci n b) (ty : FieldType) (ht : (xtys G)[ci]? = some (xcT G ci, .array ty)) (hdg : decode cc pc = .ok (.arraylength, 1))
    (kk : W p l e R s m args below meth c H locs cells slots Q (F0 m (pc + 1) ls (.int (nI n) :: rest))) : W p l e R s m args below meth c H locs cells slots Q (F0 m pc ls (.ref (xad G k) :: rest)) :=
  va_alen hx hb hG.1 hw.1 k ci (cA := xcT G ci) (x := (n, .inr (.inr (.inr (.inr (xR (xad G) n b)))))) (by rw [xw_at hk.1]; unfold xE; rw [hk.2]) (ty := .array ty) ht rfl hdg kk
theorem x_iast (hx : p.tables.exec = Jvm.exec) (hb : c.code = cc) (hG : xS G s) (hw : xW G H0 A L H locs) {k n : Nat} (hk : xIA k n) {i x : Int32} (hin : vp_in i n) (hdg : decode cc pc = .ok (.iastore, 1))
    (kk : ∀ (A1 : xM) (H1 : Heap) (locs1 : List Loc), A1 = xu A k i.toNatClampNeg x → xW G H0 A1 L H1 locs1 → W p l e R s m args below meth c H1 locs1 cells slots Q (F0 m (pc + 1) ls rest)) : W p l e R s m args below meth c H locs cells slots Q (F0 m pc ls (.int x :: .int i :: .ref (xad G k) :: rest)) :=
  va_iast hx hb hG.1 hw.1 (xw_D hG _) hw.2 k 0 (f := A k) (cA := xcT G 0) (n := n) (by rw [xw_at hk.1]; unfold xE; rw [hk.2]) rfl hin hdg (fun H1 locs1 hP _ hS => kk _ H1 locs1 rfl ⟨by
    rw [xw_set hk.1, xE_up (f := upd (A k) i.toNatClampNeg x) (g := L k) (by rw [hk.2]), xu_up, va_up_same] at hP
    exact hP, hS⟩)
theorem x_cast (hx : p.tables.exec = Jvm.exec) (hb : c.code = cc) (hG : xS G s) (hw : xW G H0 A L H locs) {k n : Nat} (hk : xCA k n) {i x : Int32} (hin : vp_in i n) (hdg : decode cc pc = .ok (.castore, 1))
    (kk : ∀ (A1 : xM) (H1 : Heap) (locs1 : List Loc), A1 = xu A k i.toNatClampNeg (vp_nar .char x) → xW G H0 A1 L H1 locs1 → W p l e R s m args below meth c H1 locs1 cells slots Q (F0 m (pc + 1) ls rest)) : W p l e R s m args below meth c H locs cells slots Q (F0 m pc ls (.int x :: .int i :: .ref (xad G k) :: rest)) :=
  va_cast hx hb hG.1 hw.1 (xw_D hG _) hw.2 k 2 (f := A k) (cA := xcT G 2) (n := n) (by rw [xw_at hk.1]; unfold xE; rw [hk.2]) rfl hin hdg (fun H1 locs1 hP _ hS => kk _ H1 locs1 rfl ⟨by
    rw [xw_set hk.1, xE_up (f := upd (A k) i.toNatClampNeg (vp_nar .char x)) (g := L k) (by rw [hk.2]), xu_up, va_up_same] at hP
    exact hP, hS⟩)
theorem x_last (hx : p.tables.exec = Jvm.exec) (hb : c.code = cc) (hG : xS G s) (hw : xW G H0 A L H locs) {k n : Nat} (hk : xLA k n) {i : Int32} {x : Int64} (hin : vp_in i n) (hdg : decode cc pc = .ok (.lastore, 1))
    (kk : ∀ (L1 : xL) (H1 : Heap) (locs1 : List Loc), L1 = xul L k i.toNatClampNeg x → xW G H0 A L1 H1 locs1 → W p l e R s m args below meth c H1 locs1 cells slots Q (F0 m (pc + 1) ls rest)) : W p l e R s m args below meth c H locs cells slots Q (F0 m pc ls (.long x :: .int i :: .ref (xad G k) :: rest)) :=
  va_last hx hb hG.1 hw.1 (xw_D hG _) hw.2 k 1 (f := L k) (cA := xcT G 1) (n := n) (by rw [xw_at hk.1]; unfold xE; rw [hk.2]) rfl hin hdg (fun H1 locs1 hP _ hS => kk _ H1 locs1 rfl ⟨by
    rw [xw_set hk.1, xE_up (f := A k) (g := vp_updL (L k) i.toNatClampNeg x) (by rw [hk.2]), xul_up, va_up_same] at hP
    exact hP, hS⟩)
theorem x_get (hx : p.tables.exec = Jvm.exec) (hb : c.code = cc) {own C : String} {T : u_T} {N ci index : Nat} {Ts : List Cond} (hts : ∀ w ∈ Ts, w.before args s = true) (hin : ∀ w ∈ u_ws C T N, w ∈ Ts) (hown : s.vm.findClass own = some m.cls) (hG : xS G s) (hw : xW G H0 A L H locs) {k t : Nat} (hk : xOB k ci t) (hc : vwCl[ci]? = some (C, T, N)) (j : Nat) (hj : j < N) {ref : String} (hlink : (Cond.fieldLink own index ref (T j).2.1 (T j).2.2.1).before args s = true) (hsame : ∀ x, s.fieldFound? (T j).1 (T j).2.1 (T j).2.2.1 = some x → s.fieldFound? ref (T j).2.1 (T j).2.2.1 = some x) {v : Value} (hv : (xfs (xad G) (A k) t)[j]? = some v) (hdg : decode cc pc = .ok (.getfield index, 3))
    (kk : W p l e R s m args below meth c H locs cells slots Q (F0 m (pc + 3) ls (v :: rest))) : W p l e R s m args below meth c H locs cells slots Q (F0 m pc ls (.ref (xad G k) :: rest)) :=
  va_get hx hb hts hin hown hG.1 hw.1 k (by rw [xw_at hk.1]; unfold xE; rw [hk.2]) hc j hj hlink hsame hv hdg kk
theorem x_getN (hx : p.tables.exec = Jvm.exec) (hb : c.code = cc) {own C host : String} {T : u_T} {N ci index : Nat} {Ts : List Cond} (hts : ∀ w ∈ Ts, w.before args s = true) (hin : ∀ w ∈ u_ws C T N, w ∈ Ts) (hown : s.vm.findClass own = some m.cls) (hG : xS G s) (hw : xW G H0 A L H locs) {k t : Nat} (hk : xOB k ci t) (hc : vwCl[ci]? = some (C, T, N)) (j : Nat) (hj : j < N) {ref : String} (hlink : (Cond.fieldLinkNest own index ref (T j).2.1 (T j).2.2.1 host).before args s = true) (hsame : ∀ x, s.fieldFound? (T j).1 (T j).2.1 (T j).2.2.1 = some x → s.fieldFound? ref (T j).2.1 (T j).2.2.1 = some x) {v : Value} (hv : (xfs (xad G) (A k) t)[j]? = some v) (hdg : decode cc pc = .ok (.getfield index, 3))
    (kk : W p l e R s m args below meth c H locs cells slots Q (F0 m (pc + 3) ls (v :: rest))) : W p l e R s m args below meth c H locs cells slots Q (F0 m pc ls (.ref (xad G k) :: rest)) :=
  va_getN hx hb hts hin hown hG.1 hw.1 k (by rw [xw_at hk.1]; unfold xE; rw [hk.2]) hc j hj hlink hsame hv hdg kk
theorem x_put (hx : p.tables.exec = Jvm.exec) (hb : c.code = cc) {own C : String} {T : u_T} {N ci index : Nat} {Ts : List Cond} (hts : ∀ w ∈ Ts, w.before args s = true) (hin : ∀ w ∈ u_ws C T N, w ∈ Ts) (ty0 : Nat → FieldType) (hty : ∀ k, k < N → parseFieldDescriptor (T k).2.2.1 = some (ty0 k)) (hnm : ∀ a, a < N → ∀ b, b < N → a ≠ b → (T a).2.1 ≠ (T b).2.1) (hown : s.vm.findClass own = some m.cls) (hG : xS G s) (hw : xW G H0 A L H locs) {k t : Nat} (hk : xOB k ci t) (hc : vwCl[ci]? = some (C, T, N)) (j : Nat) (hj : j < N) {ref : String} (hlink : (Cond.fieldLink own index ref (T j).2.1 (T j).2.2.1).before args s = true) (hsame : ∀ x, s.fieldFound? (T j).1 (T j).2.1 (T j).2.2.1 = some x → s.fieldFound? ref (T j).2.1 (T j).2.2.1 = some x) (hfin : (T j).2.2.2 = false) {ty : FieldType} {v : Int32} (hd : parseFieldDescriptor (T j).2.2.1 = some ty) (hn : narrow ty (.int v) = .int v) (hfit : fits ty (.int v) = true) (hl : j < (xfs (xad G) (A k) t).length) (hset : (xfs (xad G) (A k) t).set j (.int v) = xfs (xad G) (upd (A k) j v) t) (hdg : decode cc pc = .ok (.putfield index, 3))
    (kk : ∀ (A1 : xM) (H1 : Heap) (locs1 : List Loc), A1 = xu A k j v → xW G H0 A1 L H1 locs1 → W p l e R s m args below meth c H1 locs1 cells slots Q (F0 m (pc + 3) ls rest)) : W p l e R s m args below meth c H locs cells slots Q (F0 m pc ls (.int v :: .ref (xad G k) :: rest)) :=
  va_put hx hb hts hin ty0 hty hnm hown hG.1 hw.1 (xw_D hG _) hw.2 k (by rw [xw_at hk.1]; unfold xE; rw [hk.2]) hc j hj hlink hsame hfin hd hn hfit hl hdg (fun H1 locs1 hP _ hS => kk _ H1 locs1 rfl ⟨by
    rw [xw_set hk.1, xE_up (f := upd (A k) j v) (g := L k) (by rw [hk.2, hset]), xu_up, va_up_same] at hP
    exact hP, hS⟩)
theorem x_putN (hx : p.tables.exec = Jvm.exec) (hb : c.code = cc) {own C host : String} {T : u_T} {N ci index : Nat} {Ts : List Cond} (hts : ∀ w ∈ Ts, w.before args s = true) (hin : ∀ w ∈ u_ws C T N, w ∈ Ts) (ty0 : Nat → FieldType) (hty : ∀ k, k < N → parseFieldDescriptor (T k).2.2.1 = some (ty0 k)) (hnm : ∀ a, a < N → ∀ b, b < N → a ≠ b → (T a).2.1 ≠ (T b).2.1) (hown : s.vm.findClass own = some m.cls) (hG : xS G s) (hw : xW G H0 A L H locs) {k t : Nat} (hk : xOB k ci t) (hc : vwCl[ci]? = some (C, T, N)) (j : Nat) (hj : j < N) {ref : String} (hlink : (Cond.fieldLinkNest own index ref (T j).2.1 (T j).2.2.1 host).before args s = true) (hsame : ∀ x, s.fieldFound? (T j).1 (T j).2.1 (T j).2.2.1 = some x → s.fieldFound? ref (T j).2.1 (T j).2.2.1 = some x) (hfin : (T j).2.2.2 = false) {ty : FieldType} {v : Int32} (hd : parseFieldDescriptor (T j).2.2.1 = some ty) (hn : narrow ty (.int v) = .int v) (hfit : fits ty (.int v) = true) (hl : j < (xfs (xad G) (A k) t).length) (hset : (xfs (xad G) (A k) t).set j (.int v) = xfs (xad G) (upd (A k) j v) t) (hdg : decode cc pc = .ok (.putfield index, 3))
    (kk : ∀ (A1 : xM) (H1 : Heap) (locs1 : List Loc), A1 = xu A k j v → xW G H0 A1 L H1 locs1 → W p l e R s m args below meth c H1 locs1 cells slots Q (F0 m (pc + 3) ls rest)) : W p l e R s m args below meth c H locs cells slots Q (F0 m pc ls (.int v :: .ref (xad G k) :: rest)) :=
  va_putN hx hb hts hin ty0 hty hnm hown hG.1 hw.1 (xw_D hG _) hw.2 k (by rw [xw_at hk.1]; unfold xE; rw [hk.2]) hc j hj hlink hsame hfin hd hn hfit hl hdg (fun H1 locs1 hP _ hS => kk _ H1 locs1 rfl ⟨by
    rw [xw_set hk.1, xE_up (f := upd (A k) j v) (g := L k) (by rw [hk.2, hset]), xu_up, va_up_same] at hP
    exact hP, hS⟩)
theorem x_recv (hG : xS G s) (hw : xW G H0 A L H locs) {k ci t : Nat} (hk : xOB k ci t) {q : vw_C} (hc : vwCl[ci]? = some q) : ∃ cell : Cell, H[xad G k]? = some cell ∧ cell.vm.isStatics = false ∧ s.vm.findClass q.1 = some cell.cls :=
  va_recv hG.1 hw.1 (ci := ci) (q0 := k) (a := xad G k) (fs := xfs (xad G) (A k) t) hc (by rw [xw_at hk.1]; unfold xE; rw [hk.2])
/-- ends -/
theorem x_iret (hx : p.tables.exec = Jvm.exec) (hb : c.code = cc) (hr : meth.sig.returnType = some .int) (hlocks : meth.locks = false) (hG : xS G s) (hw : xW G s.heap A L H locs) {post : Int32 → xM → xL → Prop} {v : Int32} (h : post v A L) (hdg : decode cc pc = .ok (.ireturn, 1)) : W p l e R s m args below meth c H locs cells slots (MQ below (xQi G post) args s cells slots (xAf G)) (F0 m pc ls [.int v]) :=
  W.iret hx hb hr (fun t ht hW => ⟨⟨v, (A, L), rfl, h, by rw [ht]; exact hw.1, xS.to hW hw.2 ht hG⟩, hw.2.F ht⟩) hw.2.2.2 hdg hlocks
theorem x_zret (hx : p.tables.exec = Jvm.exec) (hb : c.code = cc) (hr : meth.sig.returnType = some .boolean) (hlocks : meth.locks = false) (hG : xS G s) (hw : xW G s.heap A L H locs) {post : Int32 → xM → xL → Prop} {v : Int32} (h01 : v = 0 ∨ v = 1) (h : post v A L) (hdg : decode cc pc = .ok (.ireturn, 1)) : W p l e R s m args below meth c H locs cells slots (MQ below (xQi G post) args s cells slots (xAf G)) (F0 m pc ls [.int v]) :=
  W.zret hx hb hr (by rcases h01 with rfl | rfl <;> rfl) (fun t ht hW => ⟨⟨v, (A, L), rfl, h, by rw [ht]; exact hw.1, xS.to hW hw.2 ht hG⟩, hw.2.F ht⟩) hw.2.2.2 hdg hlocks
theorem x_lret (hx : p.tables.exec = Jvm.exec) (hb : c.code = cc) (hr : meth.sig.returnType = some .long) (hlocks : meth.locks = false) (hG : xS G s) (hw : xW G s.heap A L H locs) {post : Int64 → xM → xL → Prop} {v : Int64} (h : post v A L) (hdg : decode cc pc = .ok (.lreturn, 1)) : W p l e R s m args below meth c H locs cells slots (MQ below (xQl G post) args s cells slots (xAf G)) (F0 m pc ls [.long v]) :=
  W.lret hx hb hr (fun t ht hW => ⟨⟨v, (A, L), rfl, h, by rw [ht]; exact hw.1, xS.to hW hw.2 ht hG⟩, hw.2.F ht⟩) hw.2.2.2 hdg hlocks
theorem x_vret (hx : p.tables.exec = Jvm.exec) (hb : c.code = cc) (hr : meth.sig.returnType = none) (hlocks : meth.locks = false) (hG : xS G s) (hw : xW G s.heap A L H locs) {post : xM → xL → Prop} (h : post A L) (hdg : decode cc pc = .ok (.return_, 1)) : W p l e R s m args below meth c H locs cells slots (MQ below (xQv G post) args s cells slots (xAf G)) (F0 m pc ls []) :=
  W.vret hx hb hr (fun t ht hW => ⟨⟨(A, L), rfl, h, by rw [ht]; exact hw.1, xS.to hW hw.2 ht hG⟩, hw.2.F ht⟩) hw.2.2.2 hdg hlocks
/-- behind a call -/
theorem x_calli {st0 : List Value} {a : Array Value} {post : Int32 → xM → xL → Prop} (hG : xS G s) (hw : xW G s.heap A L H locs) (hr : va_Run p l e R s m args below meth c H locs cells slots 0 0 (F0 m pc ls st0) rest (xQi G post a) (xAf G))
    (kk : ∀ (r : Int32) (A1 : xM) (L1 : xL) (H1 : Heap) (locs1 : List Loc), xW G s.heap A1 L1 H1 locs1 → post r A1 L1 → W p l e R s m args below meth c H1 locs1 cells slots Q (F0 m (pc + 3) ls (.int r :: rest))) : W p l e R s m args below meth c H locs cells slots Q (F0 m pc ls st0) :=
  va_calli hr hw.2 (fun _ _ h => h) (fun _ h => h) (fun r u t H1 locs1 ht _ hp hB _ _ hS => kk r u.1 u.2 H1 locs1 ⟨by rw [← ht]; exact hB.1, hS⟩ hp)
theorem x_calll {st0 : List Value} {a : Array Value} {post : Int64 → xM → xL → Prop} (hG : xS G s) (hw : xW G s.heap A L H locs) (hr : va_Run p l e R s m args below meth c H locs cells slots 0 0 (F0 m pc ls st0) rest (xQl G post a) (xAf G))
    (kk : ∀ (r : Int64) (A1 : xM) (L1 : xL) (H1 : Heap) (locs1 : List Loc), xW G s.heap A1 L1 H1 locs1 → post r A1 L1 → W p l e R s m args below meth c H1 locs1 cells slots Q (F0 m (pc + 3) ls (.long r :: rest))) : W p l e R s m args below meth c H locs cells slots Q (F0 m pc ls st0) :=
  va_calll hr hw.2 (fun _ _ h => h) (fun _ h => h) (fun r u t H1 locs1 ht _ hp hB _ _ hS => kk r u.1 u.2 H1 locs1 ⟨by rw [← ht]; exact hB.1, hS⟩ hp)
theorem x_callv {st0 : List Value} {a : Array Value} {post : xM → xL → Prop} (hG : xS G s) (hw : xW G s.heap A L H locs) (hr : va_Run p l e R s m args below meth c H locs cells slots 0 0 (F0 m pc ls st0) rest (xQv G post a) (xAf G))
    (kk : ∀ (A1 : xM) (L1 : xL) (H1 : Heap) (locs1 : List Loc), xW G s.heap A1 L1 H1 locs1 → post A1 L1 → W p l e R s m args below meth c H1 locs1 cells slots Q (F0 m (pc + 3) ls rest)) : W p l e R s m args below meth c H locs cells slots Q (F0 m pc ls st0) :=
  va_callv hr hw.2 (fun _ _ h => h) (fun _ h => h) (fun u t H1 locs1 ht _ hp hB _ _ hS => kk u.1 u.2 H1 locs1 ⟨by rw [← ht]; exact hB.1, hS⟩ hp)
/-- what a callee may take for granted -/
theorem x_preV (hG : xS G s) (hw : xW G s.heap A L H locs) {k ci t : Nat} (hk : xOB k ci t) {C : String} {T : u_T} {N : Nat} (hc : vwCl[ci]? = some (C, T, N)) {As : List Value} : PreV s H C (xad G k) (va_Pc (.ref (xad G k) :: As) (xPre G A L)) As :=
  ⟨xPre_blind, x_recv hG hw hk hc, fun U hU hW => ⟨rfl, by show va_P _ _ _ U.heap; rw [hU]; exact hw.1, xS.to hW hw.2 hU hG⟩⟩
theorem x_preS (hG : xS G s) (hw : xW G s.heap A L H locs) {As : List Value} : PreS s H (va_Pc As (xPre G A L)) As :=
  ⟨xPre_blind, fun U hU hW => ⟨rfl, by show va_P _ _ _ U.heap; rw [hU]; exact hw.1, xS.to hW hw.2 hU hG⟩⟩
end XR
/-- a contract out of the walk from the entry -/
theorem x_met {l : Launch} {G : xGt} {A : xM} {L : xL} {y : MethodName} {ws ws' : List Cond} {rm : Room} {cc : ByteArray} {maxL : Nat} {ret : Option FieldType} {av : List Value} {Qc : Array Value → State → Outcome → State → Prop} (own : String) (hown : y.cls = own) (hy : plainName y.cls = true) (hw : ws = Cond.code y cc maxL ret :: ws') (hav : (lg_sl av).length ≤ maxL)
    (body : ∀ (p : Program) (e : Env) (s : State) (m : MethodId) (below : List Frame) (meth : Method) (c : Code) (ls : Array Slot), xC p s m av.toArray meth c G cc ret ws own maxL → xW G s.heap A L s.heap [] → lv_has ls maxL (lv_args 0 av) →
      W p l e rm s m av.toArray below meth c s.heap [] 0 0 (MQ below Qc av.toArray s 0 0 (xAf G)) (F0 m 0 ls [])) : Met l y ws rm (va_Pc av (xPre G A L)) Qc 0 0 (xAf G) := by
  refine Met.ofW (cc := cc) (maxL := maxL) (ret := ret) hy hw ?_
  intro p e s m args below meth c s₁ B hml hv
  obtain ⟨rfl, hP, hG⟩ := hv
  have hl := lv_entry av (n := maxL) hav
  rw [lg_entry_eq]
  exact body p e s m below meth c _ ⟨B.exec, B.bytes, B.returns, atoms_spec (ws := ws) B.pre, by rw [← hown]; exact findClass_of_methodNamed B.named, hml, B.notSynchronized, hG⟩ ⟨hP, va_S.rf⟩ hl
