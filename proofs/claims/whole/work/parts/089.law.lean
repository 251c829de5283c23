/-! the start, and the law -/
theorem inv_start : Inv xA0 xL0 := by
  have hv : ∀ q, q < 2 → HI q xA0 xL0 0 15 3000 (fun _ => 0) 0 := fun q hq => by
    refine ⟨Nat.zero_le _, ?_, ?_, by omega, fun k hk => by omega, fun _ _ => 0, fun _ _ => 0, fun _ => 0, ⟨fun s hs => ⟨fun v hv => rfl, rfl, fun v hv => Nat.two_pow_pos 60, ?_, fun i hi => absurd hi (Nat.not_lt_zero i), fun i j hi => absurd hi (Nat.not_lt_zero i), fun v hv h => absurd h (Nat.lt_irrefl 0)⟩, fun v hv => ?_⟩, fun s u hs hu _ => ?_⟩
    · rcases (show q = 0 ∨ q = 1 by omega) with rfl | rfl <;> rfl
    · rcases (show q = 0 ∨ q = 1 by omega) with rfl | rfl <;> rfl
    · unfold xA0
      rw [if_neg (by omega), if_neg (by omega), if_neg (by omega)]
      rfl
    · unfold xA0
      rw [if_neg (by omega), if_neg (by omega), if_neg (by omega), sm_zero (fun k _ => if_neg (Nat.lt_irrefl 0))]
      rfl
    · unfold wR
      split
      · rename_i h
        have h : s < 1 := h
        rw [show s = 0 by omega, wW_0]
      · rfl
  refine ⟨0, 15, 3000, 0, fun _ => 0, fun _ => 0, [], ⟨by omega, by omega, by omega, by omega, by omega, fun k hk => by omega, fun k hk => by omega, by simp⟩, ⟨rfl, rfl, ⟨0, hv 0 (by omega)⟩, ⟨0, _, 0, hv 1 (by omega)⟩, rfl, fun k hk => by omega, ⟨0, rfl, by omega, fun m a b d => by simp at d⟩, rfl, fun i hi => absurd hi (Nat.not_lt_zero i), Or.inl rfl⟩, ⟨rfl, fun k hk => by omega, ⟨rfl, rfl, rfl, fun k hk => by omega⟩, rfl, fun i hi => absurd hi (Nat.not_lt_zero i), Or.inl rfl⟩⟩
theorem law_at {xs : Nat → Int32} {Ln : Nat} (h : Ln ≤ 2048) : ∀ (f i : Nat) (A : xM) (L : xL), Inv A L → i ≤ Ln → Ln + 4 ≤ i + 4 * f → v_law_18 xs Ln f (nI i) A L := by
  intro f
  induction f with
  | zero => intro i A L _ h1 h2; omega
  | succ f ih =>
    intro i A L I h1 h2
    unfold v_law_18
    refine ⟨fun _ => trivial, fun c => ?_⟩
    have hle : i + 4 ≤ Ln := by
      rw [fa_lt, show (4 : Int32) = nI 4 from rfl, pk_sub_toInt (by omega) (by omega), nI_toInt (by omega)] at c
      omega
    have nxt : ∀ x : Int32, x = nI i + 4 → ∀ A' L', Inv A' L' → v_law_18 xs Ln f x A' L' := fun x e A' L' I' => by
      rw [e, show (4 : Int32) = nI 4 from rfl, nI_add]
      exact ih (i + 4) A' L' I' (by omega) (by omega)
    have p1 : vp_in (nI i + 1) Ln := by
      rw [show (1 : Int32) = nI 1 from rfl, nI_add]; exact pk_in (i + 1) Ln (by omega) rfl (by omega)
    have p2 : vp_in (nI i + 2) Ln := by
      rw [show (2 : Int32) = nI 2 from rfl, nI_add]; exact pk_in (i + 2) Ln (by omega) rfl (by omega)
    have p3 : vp_in (nI i + 3) Ln := by
      rw [show (3 : Int32) = nI 3 from rfl, nI_add]; exact pk_in (i + 3) Ln (by omega) rfl (by omega)
    refine ⟨pk_in i Ln (by omega) rfl (by omega), fun _ x e => nxt x e A L I, fun _ => ?_, fun _ => ?_, fun _ => ?_, fun _ => ?_, fun _ => ?_, fun _ => ?_, fun _ => ?_, fun _ => ?_, fun _ => ?_, fun _ => ?_, fun _ => ?_, fun _ => ?_, fun _ => ?_, fun _ => ?_, fun _ => ?_, fun _ => ?_, fun _ => ?_, fun _ => ?_, fun _ => ?_, fun _ => ?_⟩
    · unfold v_law_op_0
      exact ⟨p1, op_item (K := fun A2 L2 => ∀ x : Int32, x = nI i + 4 → v_law_18 xs Ln f x A2 L2) I _ (fun A' L' I' x e => nxt x e A' L' I')⟩
    · unfold v_law_op_1
      exact ⟨p1, p2, op_set (K := fun A2 L2 => ∀ x : Int32, x = nI i + 4 → v_law_18 xs Ln f x A2 L2) I _ _ (fun A' L' I' x e => nxt x e A' L' I')⟩
    · unfold v_law_op_2
      exact ⟨p1, op_cut (K := fun A2 L2 => ∀ x : Int32, x = nI i + 4 → v_law_18 xs Ln f x A2 L2) I _ (fun A' L' I' x e => nxt x e A' L' I')⟩
    · unfold v_law_op_3
      exact ⟨p1, p2, op_rule (K := fun A2 L2 => ∀ x : Int32, x = nI i + 4 → v_law_18 xs Ln f x A2 L2) I _ _ (fun A' L' I' x e => nxt x e A' L' I')⟩
    · unfold v_law_op_4
      exact ⟨p1, op_told (K := fun A2 L2 => ∀ x : Int32, x = nI i + 4 → v_law_18 xs Ln f x A2 L2) I _ (fun x e => nxt x e A L I)⟩
    · unfold v_law_op_5
      exact ⟨p1, p2, op_ways (K := fun A2 L2 => ∀ x : Int32, x = nI i + 4 → v_law_18 xs Ln f x A2 L2) I _ _ (fun A' L' I' x e => nxt x e A' L' I')⟩
    · unfold v_law_op_6
      exact ⟨p1, op_all (K := fun A2 L2 => ∀ x : Int32, x = nI i + 4 → v_law_18 xs Ln f x A2 L2) I _ (fun A' L' I' x e => nxt x e A' L' I')⟩
    · unfold v_law_op_7
      exact ⟨p1, op_reached (K := fun A2 L2 => ∀ x : Int32, x = nI i + 4 → v_law_18 xs Ln f x A2 L2) I _ (fun A' L' I' x e => nxt x e A' L' I')⟩
    · unfold v_law_op_8
      exact ⟨p1, p2, op_value (K := fun A2 L2 => ∀ x : Int32, x = nI i + 4 → v_law_18 xs Ln f x A2 L2) I _ _ (fun A' L' I' x e => nxt x e A' L' I')⟩
    · unfold v_law_op_9
      exact op_missing (K := fun A2 L2 => ∀ x : Int32, x = nI i + 4 → v_law_18 xs Ln f x A2 L2) I (fun A' L' I' x e => nxt x e A' L' I')
    · unfold v_law_op_10
      exact ⟨p1, p2, op_aim (K := fun A2 L2 => ∀ x : Int32, x = nI i + 4 → v_law_18 xs Ln f x A2 L2) I _ _ (fun A' L' I' x e => nxt x e A' L' I')⟩
    · unfold v_law_op_11
      exact ⟨p1, op_print (K := fun A2 L2 => ∀ x : Int32, x = nI i + 4 → v_law_18 xs Ln f x A2 L2) I _ (fun A' L' I' x e => nxt x e A' L' I')⟩
    · unfold v_law_op_12
      exact ⟨p1, p2, op_printOf (K := fun A2 L2 => ∀ x : Int32, x = nI i + 4 → v_law_18 xs Ln f x A2 L2) I _ _ (fun A' L' I' x e => nxt x e A' L' I')⟩
    · unfold v_law_op_13
      exact ⟨p1, op_out (K := fun A2 L2 => ∀ x : Int32, x = nI i + 4 → v_law_18 xs Ln f x A2 L2) I _ (fun x e => nxt x e A L I)⟩
    · unfold v_law_op_14
      exact ⟨p1, op_card (K := fun A2 L2 => ∀ x : Int32, x = nI i + 4 → v_law_18 xs Ln f x A2 L2) I _ (fun A' L' I' x e => nxt x e A' L' I')⟩
    · unfold v_law_op_15
      exact op_empty (K := fun A2 L2 => ∀ x : Int32, x = nI i + 4 → v_law_18 xs Ln f x A2 L2) I (fun A' L' I' x e => nxt x e A' L' I')
    · unfold v_law_op_16
      exact ⟨p1, p2, p3, op_draws (K := fun A2 L2 => ∀ x : Int32, x = nI i + 4 → v_law_18 xs Ln f x A2 L2) I _ _ _ (fun A' L' I' x e => nxt x e A' L' I')⟩
    · unfold v_law_op_17
      exact ⟨p1, p2, op_most (K := fun A2 L2 => ∀ x : Int32, x = nI i + 4 → v_law_18 xs Ln f x A2 L2) I _ _ (fun A' L' I' x e => nxt x e A' L' I')⟩
    · unfold v_law_op_18
      exact ⟨p1, p2, p3, op_span (K := fun A2 L2 => ∀ x : Int32, x = nI i + 4 → v_law_18 xs Ln f x A2 L2) I _ _ _ (fun A' L' I' x e => nxt x e A' L' I')⟩
    · unfold v_law_op_19
      exact ⟨p1, p2, op_signs (K := fun A2 L2 => ∀ x : Int32, x = nI i + 4 → v_law_18 xs Ln f x A2 L2) I _ _ (fun A' L' I' x e => nxt x e A' L' I')⟩
theorem law_math (xs : Nat → Int32) (Ln : Nat) (h : Ln ≤ 2048) : ∃ n, v_law_18 xs Ln n 0 xA0 xL0 :=
  ⟨Ln + 1, law_at h (Ln + 1) 0 xA0 xL0 inv_start (Nat.zero_le _) (by omega)⟩
