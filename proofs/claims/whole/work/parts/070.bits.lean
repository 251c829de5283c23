/-! bits, in, may, outside -/
def pc (x i : Nat) : Nat := fb_sm (fun k => x / 2 ^ k % 2) i
def pb (x : Nat) : Nat := pc x 12
theorem pb_10 : ∀ x, x < 1024 → pc x 10 = pb x := by decide +kernel
def jbc (x0 : Int32) : Int32 :=
  let a1 := (x0 - ((x0.toUInt32 >>> ((1 : Int32).toUInt32 &&& Int32.toUInt32 31)).toInt32 &&& (1431655765 : Int32)))
  let a2 := ((a1 &&& (858993459 : Int32)) + ((a1.toUInt32 >>> ((2 : Int32).toUInt32 &&& Int32.toUInt32 31)).toInt32 &&& (858993459 : Int32)))
  let a3 := ((a2 + (a2.toUInt32 >>> ((4 : Int32).toUInt32 &&& Int32.toUInt32 31)).toInt32) &&& (252645135 : Int32))
  let a4 := (a3 + (a3.toUInt32 >>> ((8 : Int32).toUInt32 &&& Int32.toUInt32 31)).toInt32)
  let a5 := (a4 + (a4.toUInt32 >>> ((16 : Int32).toUInt32 &&& Int32.toUInt32 31)).toInt32)
  a5 &&& (63 : Int32)
set_option maxRecDepth 100000 in
theorem jbc_eq : ∀ x, x < 4096 → jbc (nI x) = nI (pb x) := by decide +kernel
theorem s_bc {x : Nat} (h : x < 4096) {post : Int32 → Prop} (hp : post (nI (pb x))) : v_J6_bitCount_0f7a4 (nI x) post := by
  unfold v_J6_bitCount_0f7a4
  intro a1 e1 a2 e2 a3 e3 a4 e4 a5 e5
  have e : a5 &&& 63 = jbc (nI x) := by
    subst e1; subst e2; subst e3; subst e4; subst e5
    rfl
  rw [e, jbc_eq x h]
  exact hp
theorem sh_k : ∀ k, k < 32 → ((nI k &&& 31).toBitVec.smod 32).toNat = k := by decide +kernel
theorem shr_nI {n k : Nat} (h : n < 2 ^ 31) (hk : k < 32) : nI n >>> (nI k &&& 31) = nI (n / 2 ^ k) := pk_shrN h _ k (sh_k k hk)
theorem and_1 {n : Nat} (h : n < 2 ^ 32) : nI n &&& (1 : Int32) = nI (n % 2) := pk_andN h 1 (by decide)
theorem bit_nI {n k : Nat} (h : n < 2 ^ 31) (hk : k < 32) : (nI n >>> (nI k &&& 31)) &&& (1 : Int32) = nI (n / 2 ^ k % 2) := by
  rw [shr_nI h hk, and_1 (Nat.lt_of_le_of_lt (Nat.div_le_self _ _) (by omega))]
theorem s_bits {x : Nat} (h : x < 1024) {post : Int32 → Prop} (hp : post (nI (pb x))) : v_X6_bits (nI x) post := by
  unfold v_X6_bits
  refine pk_loop (σ := Int32) (fun n i s => v_X6_bits_4 (nI x) post n s (nI i)) (fun i s => s = nI (pc x i)) 10 0 0 (by omega) rfl (fun n s hI => ?_) (fun n i s hi hI k => ?_)
  · unfold v_X6_bits_4
    subst hI
    refine pk_le 10 10 (fun _ => ?_) (fun c => absurd c (by omega))
    rw [pb_10 x h]
    exact hp
  · unfold v_X6_bits_4
    refine pk_le 10 i (fun c => absurd c (by omega)) (fun _ x1 e1 x2 e2 => ?_)
    have e2 : x2 = nI (i + 1) := by rw [e2]; exact nI_1 i
    subst e2
    refine k x1 ?_
    rw [e1, hI, bit_nI (by omega) (by omega), nI_add]
    rfl
theorem lg_le {x y : Int32} : lg_cmp x.toInt64 y.toInt64 < 0 ↔ x < y := by rw [lg_cmp_lt, fa_wide_lt]
/-- between two bounds -/
abbrev wI (x : Int32) (a b : Int32) : Prop := a ≤ x ∧ x ≤ b
theorem s_in {x a b : Int32} {post : Int32 → Prop} (h1 : wI x a b → post 1) (h0 : ¬ wI x a b → post 0) : v_X6_in x.toInt64 a.toInt64 b.toInt64 post := by
  unfold v_X6_in
  rw [lg_cmp_lt, lg_cmp_gt, fa_wide_lt, fa_wide_lt]
  refine ⟨fun c => h0 fun w => ?_, fun c => ⟨fun c2 => h0 fun w => ?_, fun c2 => h1 ⟨fa_of_nlt c, fa_of_nlt c2⟩⟩⟩
  · have := w.1; rw [fa_le] at this; rw [fa_lt] at c; omega
  · have := w.2; rw [fa_le] at this; rw [fa_lt] at c2; omega
theorem s_out {x a b : Int32} {post : Int32 → Prop} (h1 : wI x a b → post 0) (h0 : ¬ wI x a b → post 1) : v_X5_isOutside x a b post := by
  unfold v_X5_isOutside
  refine ⟨fun c => h0 fun w => ?_, fun c => ⟨fun c2 => h1 ⟨fa_of_nlt c, c2⟩, fun c2 => h0 fun w => c2 w.2⟩⟩
  have := w.1; rw [fa_le] at this; rw [fa_lt] at c; omega
theorem wI_nat {x : Int32} {a b : Nat} (ha : a < 2 ^ 31) (hb : b < 2 ^ 31) (h : wI x (nI a) (nI b)) : ∃ k, a ≤ k ∧ k ≤ b ∧ x = nI k := by
  have h1 := h.1
  have h2 := h.2
  rw [fa_le, nI_toInt ha] at h1
  rw [fa_le, nI_toInt hb] at h2
  refine ⟨x.toInt.toNat, by omega, by omega, ?_⟩
  apply Int32.toInt_inj.mp
  rw [nI_toInt (by omega)]
  omega
theorem wI_of {x a b : Nat} (h1 : a ≤ x) (h2 : x ≤ b) (hb : b < 2 ^ 31) : wI (nI x) (nI a) (nI b) := ⟨nI_le h1 (by omega), nI_le h2 hb⟩
theorem wI_iff {x a b : Nat} (hx : x < 2 ^ 31) (ha : a < 2 ^ 31) (hb : b < 2 ^ 31) : wI (nI x) (nI a) (nI b) ↔ a ≤ x ∧ x ≤ b := by
  unfold wI
  rw [nI_leI ha hx, nI_leI hx hb]
theorem may_fin : ∀ ac, ac < 16 → ∀ k, k < 4 → ((((nI ac >>> (nI k &&& 31)) &&& (1 : Int32)) = 1) ↔ ac.testBit k = true) := by decide +kernel
theorem s_may {A : xM} {L : xL} {ac k : Nat} (hac : A 23 2 = nI ac) (h16 : ac < 16) (hk : k < 4) {post : Int32 → Prop} (h : post (aI ac k)) : v_X6_may (nI k) A L post := by
  unfold v_X6_may
  rw [hac]
  have := may_fin ac h16 k hk
  unfold aI at h
  refine ⟨fun c => ?_, fun c => ?_⟩
  · rw [if_neg (fun e => c (this.mpr e))] at h; exact h
  · rw [if_pos (this.mp c)] at h; exact h
