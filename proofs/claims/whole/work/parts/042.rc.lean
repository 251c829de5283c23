abbrev rX6_firstSet : Room := { frames := 1, cells := 0, slots := 0, locals := 22 }
theorem inX6_firstSet_X6 : ∀ w ∈ wsX60, w ∈ wsX6_firstSet := fun w h => List.mem_cons_of_mem _ (List.mem_append_right _ h)
def v_X6_firstSet_4 (x1 : Int32) (A : xM) (L : xL) (post : Int32 → Prop) : Nat → Int32 → Int32 → Prop
  | 0, _, _ => False
  | n + 1, x2, x3 => (((1 : Int32) <<< ((A 23 9) &&& 31)) ≤ x3 → (post x2)) ∧ (¬ ((1 : Int32) <<< ((A 23 9) &&& 31)) ≤ x3 → (vp_in (((3001 : Int32) * x3) + x1) 192064 ∧ (((lg_cmp (L 28 (((3001 : Int32) * x3) + x1).toNatClampNeg) (0 : Int64)) ≤ 0 → (∀ x3_4 : Int32, x3_4 = x3 + (1 : Int32) → (v_X6_firstSet_4 x1 A L post n x2 x3_4))) ∧ (¬ (lg_cmp (L 28 (((3001 : Int32) * x3) + x1).toNatClampNeg) (0 : Int64)) ≤ 0 → ((x2 < 0 → (∀ x3_6 : Int32, x3_6 = x3 + (1 : Int32) → (v_X6_firstSet_4 x1 A L post n x3 x3_6))) ∧ (¬ x2 < 0 → (v_X6_bits x3 (fun (r_7 : Int32) => (v_X6_bits x2 (fun (r_8 : Int32) => ((r_8 ≤ r_7 → (∀ x3_10 : Int32, x3_10 = x3 + (1 : Int32) → (v_X6_firstSet_4 x1 A L post n x2 x3_10))) ∧ (¬ r_8 ≤ r_7 → (∀ x3_11 : Int32, x3_11 = x3 + (1 : Int32) → (v_X6_firstSet_4 x1 A L post n x3 x3_11))))))))))))))
def v_X6_firstSet (x1 : Int32) (A : xM) (L : xL) (post : Int32 → Prop) : Prop := ∃ k9 : Nat, v_X6_firstSet_4 x1 A L post k9 (-1 : Int32) (1 : Int32)
section MECH
variable {p : Program} {l : Launch} {e : Env} {s : State} {m : MethodId} {args : Array Value} {below : List Frame} {meth : Method} {c : Code} {G : xGt}
set_option maxHeartbeats 4000000 in
set_option maxRecDepth 100000 in
theorem t_X6_firstSet_4 (C0 : xC p s m args meth c G cX6_firstSet (some .int) wsX6_firstSet RX6 4) {post : Int32 → Prop} {x1 : Int32} {A : xM} {L : xL} : ∀ (n : Nat) (x2 : Int32) (x3 : Int32) (H : Heap) (locs : List Loc) (ls : Array Slot), xW G s.heap A L H locs → lv_has ls 4 [(0, .ref (xad G 23)), (1, .int x1), (2, .int x2), (3, .int x3)] → v_X6_firstSet_4 x1 A L post n x2 x3 → W p l e rX6_firstSet s m args below meth c H locs 0 0 (MQ below (xQi G (xpi A L post)) args s 0 0 (xAf G)) (F0 m 4 ls []) := by
  obtain ⟨hx, hb, hr, hts, hown, hml, hlocks, hG⟩ := id C0
  intro n
  induction n with
  | zero => intro x2 x3 H locs ls hw hl h; exact (show False from h).elim
  | succ n ih =>
    intro x2 x3 H locs ls hw hl h
    unfold v_X6_firstSet_4 at h
    refine lv_iload_n hx hb dX6_firstSet_4 rfl (lv_at hl 3 rfl) ?_
    refine lv_iconst (v := 1) hx hb dX6_firstSet_5 (by decide) ?_
    refine lv_aload_n hx hb dX6_firstSet_6 rfl (lv_at hl 0 rfl) ?_
    refine x_get (C := RX6) (T := TX6) (N := 20) hx hb hts inX6_firstSet_X6 hown hG hw xO23 rfl 9 (by decide) (hts (.fieldLink RX6 96 "SixNumbersModel" "works" "I") (List.mem_of_getElem? (i := 1) rfl)) (fun _ h9 => h9) (v := .int (A 23 9)) rfl dX6_firstSet_7 ?_
    refine lv_ishl hx hb dX6_firstSet_10 ?_
    refine lv_icmp_ge (tgt := 54) hx hb dX6_firstSet_11 (by decide) (fun c_1 => ?_) (fun c_1 => ?_)
    · have h := h.1 c_1
      refine lv_iload_n hx hb dX6_firstSet_54 rfl (lv_at hl 2 rfl) ?_
      exact x_iret hx hb hr hlocks hG hw ⟨h, rfl, rfl⟩ dX6_firstSet_55
    · have h := h.2 c_1
      refine lv_aload_n hx hb dX6_firstSet_14 rfl (lv_at hl 0 rfl) ?_
      refine x_get (C := RX6) (T := TX6) (N := 20) hx hb hts inX6_firstSet_X6 hown hG hw xO23 rfl 10 (by decide) (hts (.fieldLink RX6 30 "SixNumbersModel" "ways" "[J") (List.mem_of_getElem? (i := 2) rfl)) (fun _ h9 => h9) (v := .ref (xad G 28)) rfl dX6_firstSet_15 ?_
      refine lv_sipush (v := 3001) hx hb dX6_firstSet_18 (by decide) ?_
      refine lv_iload_n hx hb dX6_firstSet_21 rfl (lv_at hl 3 rfl) ?_
      refine lv_imul hx hb dX6_firstSet_22 ?_
      refine lv_iload_n hx hb dX6_firstSet_23 rfl (lv_at hl 1 rfl) ?_
      refine lv_iadd hx hb dX6_firstSet_24 ?_
      have i_2 := h.1
      have h := h.2
      refine x_lald hx hb hG hw xb28 i_2 dX6_firstSet_25 ?_
      refine lv_lconst (v := 0) hx hb dX6_firstSet_26 (by decide) ?_
      refine W.lcmp hx hb dX6_firstSet_27 ?_
      refine lv_if_le (tgt := 48) hx hb dX6_firstSet_28 (by decide) (fun c_3 => ?_) (fun c_3 => ?_)
      · have h := h.1 c_3
        obtain ⟨x3_4, ex3_4⟩ : ∃ y : Int32, y = x3 + (1 : Int32) := ⟨_, rfl⟩
        have h := h x3_4 ex3_4
        refine lv_iinc (v := x3_4) (lv' := [(3, .int x3_4), (0, .ref (xad G 23)), (1, .int x1), (2, .int x2)]) hx hb dX6_firstSet_48 hl (k := 3) rfl (by rw [ex3_4]; rfl) (by decide) rfl (fun ls hl => ?_)
        refine lv_goto (tgt := 4) hx hb dX6_firstSet_51 (by decide) ?_
        exact ih x2 x3_4 _ _ _ hw (lv_sub hl [1, 2, 3, 0] rfl) h
      · have h := h.2 c_3
        refine lv_iload_n hx hb dX6_firstSet_31 rfl (lv_at hl 2 rfl) ?_
        refine lv_if_lt (tgt := 46) hx hb dX6_firstSet_32 (by decide) (fun c_5 => ?_) (fun c_5 => ?_)
        · have h := h.1 c_5
          refine lv_iload_n hx hb dX6_firstSet_46 rfl (lv_at hl 3 rfl) ?_
          refine lv_istore_n (lv' := [(2, .int x3), (0, .ref (xad G 23)), (1, .int x1), (3, .int x3)]) hx hb dX6_firstSet_47 rfl hl (by decide) rfl (fun ls hl => ?_)
          obtain ⟨x3_6, ex3_6⟩ : ∃ y : Int32, y = x3 + (1 : Int32) := ⟨_, rfl⟩
          have h := h x3_6 ex3_6
          refine lv_iinc (v := x3_6) (lv' := [(3, .int x3_6), (2, .int x3), (0, .ref (xad G 23)), (1, .int x1)]) hx hb dX6_firstSet_48 hl (k := 3) rfl (by rw [ex3_6]; rfl) (by decide) rfl (fun ls hl => ?_)
          refine lv_goto (tgt := 4) hx hb dX6_firstSet_51 (by decide) ?_
          exact ih x3 x3_6 _ _ _ hw (lv_sub hl [2, 3, 1, 0] rfl) h
        · have h := h.2 c_5
          refine lv_iload_n hx hb dX6_firstSet_35 rfl (lv_at hl 3 rfl) ?_
          refine x_calli hG hw (va_runS (As := [.int x3]) (rest := []) ⟨hx, hb, hml, hown, hts⟩ (c_X6_bits (l := l) (G := G) h) (va_cwS 1 hts gX6_firstSet_X6_bits rfl rfl rfl (by decide +kernel) ⟨Nat.le_of_ble_eq_true rfl, Nat.le_of_ble_eq_true rfl⟩) (x_preS hG hw) rfl rfl hl.1 rfl (lv_room (Nat.le_of_ble_eq_true rfl)) dX6_firstSet_36 ⟨Nat.le_of_ble_eq_true rfl, Nat.le_of_ble_eq_true rfl⟩) (fun r_7 A9 L9 H locs hw h => ?_)
          rw [h.2.1, h.2.2] at hw
          have h := h.1
          refine lv_iload_n hx hb dX6_firstSet_39 rfl (lv_at hl 2 rfl) ?_
          refine x_calli hG hw (va_runS (As := [.int x2]) (rest := [.int r_7]) ⟨hx, hb, hml, hown, hts⟩ (c_X6_bits (l := l) (G := G) h) (va_cwS 1 hts gX6_firstSet_X6_bits rfl rfl rfl (by decide +kernel) ⟨Nat.le_of_ble_eq_true rfl, Nat.le_of_ble_eq_true rfl⟩) (x_preS hG hw) rfl rfl hl.1 rfl (lv_room (Nat.le_of_ble_eq_true rfl)) dX6_firstSet_40 ⟨Nat.le_of_ble_eq_true rfl, Nat.le_of_ble_eq_true rfl⟩) (fun r_8 A9 L9 H locs hw h => ?_)
          rw [h.2.1, h.2.2] at hw
          have h := h.1
          refine lv_icmp_ge (tgt := 48) hx hb dX6_firstSet_43 (by decide) (fun c_9 => ?_) (fun c_9 => ?_)
          · have h := h.1 c_9
            obtain ⟨x3_10, ex3_10⟩ : ∃ y : Int32, y = x3 + (1 : Int32) := ⟨_, rfl⟩
            have h := h x3_10 ex3_10
            refine lv_iinc (v := x3_10) (lv' := [(3, .int x3_10), (0, .ref (xad G 23)), (1, .int x1), (2, .int x2)]) hx hb dX6_firstSet_48 hl (k := 3) rfl (by rw [ex3_10]; rfl) (by decide) rfl (fun ls hl => ?_)
            refine lv_goto (tgt := 4) hx hb dX6_firstSet_51 (by decide) ?_
            exact ih x2 x3_10 _ _ _ hw (lv_sub hl [1, 2, 3, 0] rfl) h
          · have h := h.2 c_9
            refine lv_iload_n hx hb dX6_firstSet_46 rfl (lv_at hl 3 rfl) ?_
            refine lv_istore_n (lv' := [(2, .int x3), (0, .ref (xad G 23)), (1, .int x1), (3, .int x3)]) hx hb dX6_firstSet_47 rfl hl (by decide) rfl (fun ls hl => ?_)
            obtain ⟨x3_11, ex3_11⟩ : ∃ y : Int32, y = x3 + (1 : Int32) := ⟨_, rfl⟩
            have h := h x3_11 ex3_11
            refine lv_iinc (v := x3_11) (lv' := [(3, .int x3_11), (2, .int x3), (0, .ref (xad G 23)), (1, .int x1)]) hx hb dX6_firstSet_48 hl (k := 3) rfl (by rw [ex3_11]; rfl) (by decide) rfl (fun ls hl => ?_)
            refine lv_goto (tgt := 4) hx hb dX6_firstSet_51 (by decide) ?_
            exact ih x3 x3_11 _ _ _ hw (lv_sub hl [2, 3, 1, 0] rfl) h
set_option maxHeartbeats 4000000 in
set_option maxRecDepth 100000 in
theorem t_X6_firstSet_0 (C0 : xC p s m args meth c G cX6_firstSet (some .int) wsX6_firstSet RX6 4) {post : Int32 → Prop} {x1 : Int32} {A : xM} {L : xL} {H : Heap} {locs : List Loc} {ls : Array Slot} (hw : xW G s.heap A L H locs) (hl : lv_has ls 4 [(0, .ref (xad G 23)), (1, .int x1)]) (h : v_X6_firstSet x1 A L post) : W p l e rX6_firstSet s m args below meth c H locs 0 0 (MQ below (xQi G (xpi A L post)) args s 0 0 (xAf G)) (F0 m 0 ls []) := by
  obtain ⟨hx, hb, hr, hts, hown, hml, hlocks, hG⟩ := id C0
  unfold v_X6_firstSet at h
  refine lv_iconst (v := (-1)) hx hb dX6_firstSet_0 (by decide) ?_
  refine lv_istore_n (lv' := [(2, .int (-1 : Int32)), (0, .ref (xad G 23)), (1, .int x1)]) hx hb dX6_firstSet_1 rfl hl (by decide) rfl (fun ls hl => ?_)
  refine lv_iconst (v := 1) hx hb dX6_firstSet_2 (by decide) ?_
  refine lv_istore_n (lv' := [(3, .int (1 : Int32)), (2, .int (-1 : Int32)), (0, .ref (xad G 23)), (1, .int x1)]) hx hb dX6_firstSet_3 rfl hl (by decide) rfl (fun ls hl => ?_)
  obtain ⟨n9, h⟩ := h
  exact t_X6_firstSet_4 C0 n9 (-1 : Int32) (1 : Int32) _ _ _ hw (lv_sub hl [2, 3, 1, 0] rfl) h
theorem c_X6_firstSet {l : Launch} {G : xGt} {x1 : Int32} {A : xM} {L : xL} {post : Int32 → Prop} (h : v_X6_firstSet x1 A L post) : Met l yX6_firstSet wsX6_firstSet rX6_firstSet (va_Pc [.ref (xad G 23), .int x1] (xPre G A L)) (xQi G (xpi A L post)) 0 0 (xAf G) :=
  x_met RX6 rfl (by decide) rfl (Nat.le_of_ble_eq_true rfl) (fun p e s m below meth c ls C0 hw hl => t_X6_firstSet_0 C0 hw hl h)
end MECH
abbrev rX6_nearest : Room := { frames := 2, cells := 0, slots := 0, locals := 45 }
def v_X6_nearest_53 (x1 : Int32) (x4 : Int32) (x5 : Int32) (A : xM) (L : xL) (R_7 : Int32 → Int32 → Int32 → Prop) (post : Int32 → Prop) : Prop := ∀ x4_1 : Int32, x4_1 = x4 + (1 : Int32) → (R_7 x4 x5 x4_1)
def v_X6_nearest_32 (x1 : Int32) (x2 : Int32) (x3 : Int32) (x4 : Int32) (s0 : Int32) (A : xM) (L : xL) (R_7 : Int32 → Int32 → Int32 → Prop) (post : Int32 → Prop) : Prop := v_X6_isReached x4 A L (fun (r_1 : Int32) => ((r_1 = 0 → (∀ x4_3 : Int32, x4_3 = x4 + (1 : Int32) → (R_7 x2 x3 x4_3))) ∧ (¬ r_1 = 0 → ((x2 < 0 → (v_X6_nearest_53 x1 x4 s0 A L R_7 post)) ∧ (¬ x2 < 0 → ((x3 ≤ s0 → (∀ x4_6 : Int32, x4_6 = x4 + (1 : Int32) → (R_7 x2 x3 x4_6))) ∧ (¬ x3 ≤ s0 → (v_X6_nearest_53 x1 x4 s0 A L R_7 post))))))))
def v_X6_nearest_7 (x1 : Int32) (A : xM) (L : xL) (post : Int32 → Prop) : Nat → Int32 → Int32 → Int32 → Prop
  | 0, _, _, _ => False
  | n + 1, x2, x3, x4 => ((3000 : Int32) < x4 → (post x2)) ∧ (¬ (3000 : Int32) < x4 → ((x4 ≤ x1 → (v_X6_nearest_32 x1 x2 x3 x4 (x1 - x4) A L (fun x2 x3 x4 => v_X6_nearest_7 x1 A L post n x2 x3 x4) post)) ∧ (¬ x4 ≤ x1 → (v_X6_nearest_32 x1 x2 x3 x4 (x4 - x1) A L (fun x2 x3 x4 => v_X6_nearest_7 x1 A L post n x2 x3 x4) post))))
def v_X6_nearest (x1 : Int32) (A : xM) (L : xL) (post : Int32 → Prop) : Prop := ∃ k9 : Nat, v_X6_nearest_7 x1 A L post k9 (-1 : Int32) (0 : Int32) (1 : Int32)
section MECH
variable {p : Program} {l : Launch} {e : Env} {s : State} {m : MethodId} {args : Array Value} {below : List Frame} {meth : Method} {c : Code} {G : xGt}
set_option maxHeartbeats 4000000 in
set_option maxRecDepth 100000 in
theorem t_X6_nearest_53 (C0 : xC p s m args meth c G cX6_nearest (some .int) wsX6_nearest RX6 6) {post : Int32 → Prop} {x1 : Int32} {x4 : Int32} {x5 : Int32} {A : xM} {L : xL} {R_7 : Int32 → Int32 → Int32 → Prop} (hR_7 : ∀ (x2 : Int32) (x3 : Int32) (x4 : Int32) (H : Heap) (locs : List Loc) (ls : Array Slot), xW G s.heap A L H locs → lv_has ls 6 [(0, .ref (xad G 23)), (1, .int x1), (2, .int x2), (3, .int x3), (4, .int x4)] → R_7 x2 x3 x4 → W p l e rX6_nearest s m args below meth c H locs 0 0 (MQ below (xQi G (xpi A L post)) args s 0 0 (xAf G)) (F0 m 7 ls [])) {H : Heap} {locs : List Loc} {ls : Array Slot} (hw : xW G s.heap A L H locs) (hl : lv_has ls 6 [(0, .ref (xad G 23)), (1, .int x1), (4, .int x4), (5, .int x5)]) (h : v_X6_nearest_53 x1 x4 x5 A L R_7 post) : W p l e rX6_nearest s m args below meth c H locs 0 0 (MQ below (xQi G (xpi A L post)) args s 0 0 (xAf G)) (F0 m 53 ls []) := by
  obtain ⟨hx, hb, hr, hts, hown, hml, hlocks, hG⟩ := id C0
  unfold v_X6_nearest_53 at h
  refine lv_iload hx hb dX6_nearest_53 (lv_at hl 2 rfl) ?_
  refine lv_istore_n (lv' := [(2, .int x4), (0, .ref (xad G 23)), (1, .int x1), (4, .int x4), (5, .int x5)]) hx hb dX6_nearest_55 rfl hl (by decide) rfl (fun ls hl => ?_)
  refine lv_iload hx hb dX6_nearest_56 (lv_at hl 4 rfl) ?_
  refine lv_istore_n (lv' := [(3, .int x5), (2, .int x4), (0, .ref (xad G 23)), (1, .int x1), (4, .int x4), (5, .int x5)]) hx hb dX6_nearest_58 rfl hl (by decide) rfl (fun ls hl => ?_)
  obtain ⟨x4_1, ex4_1⟩ : ∃ y : Int32, y = x4 + (1 : Int32) := ⟨_, rfl⟩
  have h := h x4_1 ex4_1
  refine lv_iinc (v := x4_1) (lv' := [(4, .int x4_1), (3, .int x5), (2, .int x4), (0, .ref (xad G 23)), (1, .int x1), (5, .int x5)]) hx hb dX6_nearest_59 hl (k := 4) rfl (by rw [ex4_1]; rfl) (by decide) rfl (fun ls hl => ?_)
  refine lv_goto (tgt := 7) hx hb dX6_nearest_62 (by decide) ?_
  exact hR_7 x4 x5 x4_1 _ _ _ hw (lv_sub hl [3, 4, 2, 1, 0] rfl) h
set_option maxHeartbeats 4000000 in
set_option maxRecDepth 100000 in
theorem t_X6_nearest_32 (C0 : xC p s m args meth c G cX6_nearest (some .int) wsX6_nearest RX6 6) {post : Int32 → Prop} {x1 : Int32} {x2 : Int32} {x3 : Int32} {x4 : Int32} {s0 : Int32} {A : xM} {L : xL} {R_7 : Int32 → Int32 → Int32 → Prop} (hR_7 : ∀ (x2 : Int32) (x3 : Int32) (x4 : Int32) (H : Heap) (locs : List Loc) (ls : Array Slot), xW G s.heap A L H locs → lv_has ls 6 [(0, .ref (xad G 23)), (1, .int x1), (2, .int x2), (3, .int x3), (4, .int x4)] → R_7 x2 x3 x4 → W p l e rX6_nearest s m args below meth c H locs 0 0 (MQ below (xQi G (xpi A L post)) args s 0 0 (xAf G)) (F0 m 7 ls [])) {H : Heap} {locs : List Loc} {ls : Array Slot} (hw : xW G s.heap A L H locs) (hl : lv_has ls 6 [(0, .ref (xad G 23)), (1, .int x1), (2, .int x2), (3, .int x3), (4, .int x4)]) (h : v_X6_nearest_32 x1 x2 x3 x4 s0 A L R_7 post) : W p l e rX6_nearest s m args below meth c H locs 0 0 (MQ below (xQi G (xpi A L post)) args s 0 0 (xAf G)) (F0 m 32 ls [.int s0]) := by
  obtain ⟨hx, hb, hr, hts, hown, hml, hlocks, hG⟩ := id C0
  unfold v_X6_nearest_32 at h
  refine lv_istore (lv' := [(5, .int s0), (0, .ref (xad G 23)), (1, .int x1), (2, .int x2), (3, .int x3), (4, .int x4)]) hx hb dX6_nearest_32 hl (by decide) rfl (fun ls hl => ?_)
  refine lv_aload_n hx hb dX6_nearest_34 rfl (lv_at hl 1 rfl) ?_
  refine lv_iload hx hb dX6_nearest_35 (lv_at hl 5 rfl) ?_
  refine x_calli hG hw (va_runV (As := [.int x4]) (rest := []) ⟨hx, hb, hml, hown, hts⟩ (c_X6_isReached (l := l) (G := G) h) (cwV 1 hts gX6_nearest_X6_isReached rfl rfl rfl (by decide +kernel) ⟨Nat.le_of_ble_eq_true rfl, Nat.le_of_ble_eq_true rfl⟩) (x_preV hG hw xO23 rfl) rfl rfl hl.1 rfl (lv_room (Nat.le_of_ble_eq_true rfl)) dX6_nearest_37 ⟨Nat.le_of_ble_eq_true rfl, Nat.le_of_ble_eq_true rfl⟩) (fun r_1 A9 L9 H locs hw h => ?_)
  rw [h.2.1, h.2.2] at hw
  have h := h.1
  refine lv_if_eq (tgt := 59) hx hb dX6_nearest_40 (by decide) (fun c_2 => ?_) (fun c_2 => ?_)
  · have h := h.1 c_2
    obtain ⟨x4_3, ex4_3⟩ : ∃ y : Int32, y = x4 + (1 : Int32) := ⟨_, rfl⟩
    have h := h x4_3 ex4_3
    refine lv_iinc (v := x4_3) (lv' := [(4, .int x4_3), (5, .int s0), (0, .ref (xad G 23)), (1, .int x1), (2, .int x2), (3, .int x3)]) hx hb dX6_nearest_59 hl (k := 5) rfl (by rw [ex4_3]; rfl) (by decide) rfl (fun ls hl => ?_)
    refine lv_goto (tgt := 7) hx hb dX6_nearest_62 (by decide) ?_
    exact hR_7 x2 x3 x4_3 _ _ _ hw (lv_sub hl [2, 3, 4, 5, 0] rfl) h
  · have h := h.2 c_2
    refine lv_iload_n hx hb dX6_nearest_43 rfl (lv_at hl 3 rfl) ?_
    refine lv_if_lt (tgt := 53) hx hb dX6_nearest_44 (by decide) (fun c_4 => ?_) (fun c_4 => ?_)
    · have h := h.1 c_4
      exact t_X6_nearest_53 C0 hR_7 hw (lv_sub hl [1, 2, 5, 0] rfl) h
    · have h := h.2 c_4
      refine lv_iload hx hb dX6_nearest_47 (lv_at hl 0 rfl) ?_
      refine lv_iload_n hx hb dX6_nearest_49 rfl (lv_at hl 4 rfl) ?_
      refine lv_icmp_ge (tgt := 59) hx hb dX6_nearest_50 (by decide) (fun c_5 => ?_) (fun c_5 => ?_)
      · have h := h.1 c_5
        obtain ⟨x4_6, ex4_6⟩ : ∃ y : Int32, y = x4 + (1 : Int32) := ⟨_, rfl⟩
        have h := h x4_6 ex4_6
        refine lv_iinc (v := x4_6) (lv' := [(4, .int x4_6), (5, .int s0), (0, .ref (xad G 23)), (1, .int x1), (2, .int x2), (3, .int x3)]) hx hb dX6_nearest_59 hl (k := 5) rfl (by rw [ex4_6]; rfl) (by decide) rfl (fun ls hl => ?_)
        refine lv_goto (tgt := 7) hx hb dX6_nearest_62 (by decide) ?_
        exact hR_7 x2 x3 x4_6 _ _ _ hw (lv_sub hl [2, 3, 4, 5, 0] rfl) h
      · have h := h.2 c_5
        exact t_X6_nearest_53 C0 hR_7 hw (lv_sub hl [1, 2, 5, 0] rfl) h
set_option maxHeartbeats 4000000 in
set_option maxRecDepth 100000 in
theorem t_X6_nearest_7 (C0 : xC p s m args meth c G cX6_nearest (some .int) wsX6_nearest RX6 6) {post : Int32 → Prop} {x1 : Int32} {A : xM} {L : xL} : ∀ (n : Nat) (x2 : Int32) (x3 : Int32) (x4 : Int32) (H : Heap) (locs : List Loc) (ls : Array Slot), xW G s.heap A L H locs → lv_has ls 6 [(0, .ref (xad G 23)), (1, .int x1), (2, .int x2), (3, .int x3), (4, .int x4)] → v_X6_nearest_7 x1 A L post n x2 x3 x4 → W p l e rX6_nearest s m args below meth c H locs 0 0 (MQ below (xQi G (xpi A L post)) args s 0 0 (xAf G)) (F0 m 7 ls []) := by
  obtain ⟨hx, hb, hr, hts, hown, hml, hlocks, hG⟩ := id C0
  intro n
  induction n with
  | zero => intro x2 x3 x4 H locs ls hw hl h; exact (show False from h).elim
  | succ n ih =>
    intro x2 x3 x4 H locs ls hw hl h
    unfold v_X6_nearest_7 at h
    refine lv_iload hx hb dX6_nearest_7 (lv_at hl 4 rfl) ?_
    refine lv_sipush (v := 3000) hx hb dX6_nearest_9 (by decide) ?_
    refine lv_icmp_gt (tgt := 65) hx hb dX6_nearest_12 (by decide) (fun c_1 => ?_) (fun c_1 => ?_)
    · have h := h.1 c_1
      refine lv_iload_n hx hb dX6_nearest_65 rfl (lv_at hl 2 rfl) ?_
      exact x_iret hx hb hr hlocks hG hw ⟨h, rfl, rfl⟩ dX6_nearest_66
    · have h := h.2 c_1
      refine lv_iload hx hb dX6_nearest_15 (lv_at hl 4 rfl) ?_
      refine lv_iload_n hx hb dX6_nearest_17 rfl (lv_at hl 1 rfl) ?_
      refine lv_icmp_le (tgt := 28) hx hb dX6_nearest_18 (by decide) (fun c_2 => ?_) (fun c_2 => ?_)
      · have h := h.1 c_2
        refine lv_iload_n hx hb dX6_nearest_28 rfl (lv_at hl 1 rfl) ?_
        refine lv_iload hx hb dX6_nearest_29 (lv_at hl 4 rfl) ?_
        refine lv_isub hx hb dX6_nearest_31 ?_
        exact t_X6_nearest_32 C0 ih hw (lv_sub hl [0, 1, 2, 3, 4] rfl) h
      · have h := h.2 c_2
        refine lv_iload hx hb dX6_nearest_21 (lv_at hl 4 rfl) ?_
        refine lv_iload_n hx hb dX6_nearest_23 rfl (lv_at hl 1 rfl) ?_
        refine lv_isub hx hb dX6_nearest_24 ?_
        refine lv_goto (tgt := 32) hx hb dX6_nearest_25 (by decide) ?_
        exact t_X6_nearest_32 C0 ih hw (lv_sub hl [0, 1, 2, 3, 4] rfl) h
set_option maxHeartbeats 4000000 in
set_option maxRecDepth 100000 in
theorem t_X6_nearest_0 (C0 : xC p s m args meth c G cX6_nearest (some .int) wsX6_nearest RX6 6) {post : Int32 → Prop} {x1 : Int32} {A : xM} {L : xL} {H : Heap} {locs : List Loc} {ls : Array Slot} (hw : xW G s.heap A L H locs) (hl : lv_has ls 6 [(0, .ref (xad G 23)), (1, .int x1)]) (h : v_X6_nearest x1 A L post) : W p l e rX6_nearest s m args below meth c H locs 0 0 (MQ below (xQi G (xpi A L post)) args s 0 0 (xAf G)) (F0 m 0 ls []) := by
  obtain ⟨hx, hb, hr, hts, hown, hml, hlocks, hG⟩ := id C0
  unfold v_X6_nearest at h
  refine lv_iconst (v := (-1)) hx hb dX6_nearest_0 (by decide) ?_
  refine lv_istore_n (lv' := [(2, .int (-1 : Int32)), (0, .ref (xad G 23)), (1, .int x1)]) hx hb dX6_nearest_1 rfl hl (by decide) rfl (fun ls hl => ?_)
  refine lv_iconst (v := 0) hx hb dX6_nearest_2 (by decide) ?_
  refine lv_istore_n (lv' := [(3, .int (0 : Int32)), (2, .int (-1 : Int32)), (0, .ref (xad G 23)), (1, .int x1)]) hx hb dX6_nearest_3 rfl hl (by decide) rfl (fun ls hl => ?_)
  refine lv_iconst (v := 1) hx hb dX6_nearest_4 (by decide) ?_
  refine lv_istore (lv' := [(4, .int (1 : Int32)), (3, .int (0 : Int32)), (2, .int (-1 : Int32)), (0, .ref (xad G 23)), (1, .int x1)]) hx hb dX6_nearest_5 hl (by decide) rfl (fun ls hl => ?_)
  obtain ⟨n9, h⟩ := h
  exact t_X6_nearest_7 C0 n9 (-1 : Int32) (0 : Int32) (1 : Int32) _ _ _ hw (lv_sub hl [3, 4, 2, 1, 0] rfl) h
theorem c_X6_nearest {l : Launch} {G : xGt} {x1 : Int32} {A : xM} {L : xL} {post : Int32 → Prop} (h : v_X6_nearest x1 A L post) : Met l yX6_nearest wsX6_nearest rX6_nearest (va_Pc [.ref (xad G 23), .int x1] (xPre G A L)) (xQi G (xpi A L post)) 0 0 (xAf G) :=
  x_met RX6 rfl (by decide) rfl (Nat.le_of_ble_eq_true rfl) (fun p e s m below meth c ls C0 hw hl => t_X6_nearest_0 C0 hw hl h)
end MECH
abbrev rX6_aim : Room := { frames := 4, cells := 0, slots := 0, locals := 100 }
def v_X6_aim (x1 : Int32) (x2 : Int32) (A : xM) (L : xL) (post : Int32 → xM → xL → Prop) : Prop := v_X6_in (x1).toInt64 (1 : Int64) (3000 : Int64) (fun (r_1 : Int32) => ((r_1 = 0 → (post (-1002 : Int32) A L)) ∧ (¬ r_1 = 0 → (v_X6_in (x2).toInt64 (0 : Int64) (3 : Int64) (fun (r_3 : Int32) => ((¬ r_3 = 0 → (v_X6_heap A L (fun (A_5 : xM) (L_6 : xL) => (v_X6_firstSet x1 A_5 L_6 (fun (r_7 : Int32) => ((x2.toInt < 0 ∨ 2 < x2.toInt → (v_X6_nearest x1 A_5 L_6 (fun (r_9 : Int32) => (post r_9 A_5 L_6)))) ∧ (x2 = (0 : Int32) → ((r_7 < 0 → (post (0 : Int32) A_5 L_6)) ∧ (¬ r_7 < 0 → (post (1 : Int32) A_5 L_6)))) ∧ (x2 = (1 : Int32) → ((r_7 < 0 → (post (-1 : Int32) A_5 L_6)) ∧ (¬ r_7 < 0 → (v_X6_bits r_7 (fun (r_12 : Int32) => (post r_12 A_5 L_6)))))) ∧ (x2 = (2 : Int32) → (post r_7 A_5 L_6)))))))) ∧ (r_3 = 0 → (post (-1002 : Int32) A L))))))))
section MECH
variable {p : Program} {l : Launch} {e : Env} {s : State} {m : MethodId} {args : Array Value} {below : List Frame} {meth : Method} {c : Code} {G : xGt}
set_option maxHeartbeats 4000000 in
set_option maxRecDepth 100000 in
theorem t_X6_aim_0 (C0 : xC p s m args meth c G cX6_aim (some .int) wsX6_aim RX6 4) {post : Int32 → xM → xL → Prop} {x1 : Int32} {x2 : Int32} {A : xM} {L : xL} {H : Heap} {locs : List Loc} {ls : Array Slot} (hw : xW G s.heap A L H locs) (hl : lv_has ls 4 [(0, .ref (xad G 23)), (1, .int x1), (2, .int x2)]) (h : v_X6_aim x1 x2 A L post) : W p l e rX6_aim s m args below meth c H locs 0 0 (MQ below (xQi G post) args s 0 0 (xAf G)) (F0 m 0 ls []) := by
  obtain ⟨hx, hb, hr, hts, hown, hml, hlocks, hG⟩ := id C0
  unfold v_X6_aim at h
  refine lv_iload_n hx hb dX6_aim_0 rfl (lv_at hl 1 rfl) ?_
  refine lv_i2l hx hb dX6_aim_1 rfl ?_
  refine lv_lconst (v := 1) hx hb dX6_aim_2 (by decide) ?_
  refine lv_ldc2 (v := (3000 : Int64)) hx hb hown (hts _ (List.mem_of_getElem? (i := 1) rfl)) dX6_aim_3 ?_
  refine x_calli hG hw (va_runS (As := [.long (x1).toInt64, .long (1 : Int64), .long (3000 : Int64)]) (rest := []) ⟨hx, hb, hml, hown, hts⟩ (c_X6_in (l := l) (G := G) h) (va_cwS 3 hts gX6_aim_X6_in rfl rfl rfl (by decide +kernel) ⟨Nat.le_of_ble_eq_true rfl, Nat.le_of_ble_eq_true rfl⟩) (x_preS hG hw) rfl rfl hl.1 rfl (lv_room (Nat.le_of_ble_eq_true rfl)) dX6_aim_6 ⟨Nat.le_of_ble_eq_true rfl, Nat.le_of_ble_eq_true rfl⟩) (fun r_1 A9 L9 H locs hw h => ?_)
  rw [h.2.1, h.2.2] at hw
  have h := h.1
  refine lv_if_eq (tgt := 24) hx hb dX6_aim_9 (by decide) (fun c_2 => ?_) (fun c_2 => ?_)
  · have h := h.1 c_2
    refine lv_sipush (v := (-1002)) hx hb dX6_aim_24 (by decide) ?_
    exact x_iret hx hb hr hlocks hG hw h dX6_aim_27
  · have h := h.2 c_2
    refine lv_iload_n hx hb dX6_aim_12 rfl (lv_at hl 2 rfl) ?_
    refine lv_i2l hx hb dX6_aim_13 rfl ?_
    refine lv_lconst (v := 0) hx hb dX6_aim_14 (by decide) ?_
    refine lv_ldc2 (v := (3 : Int64)) hx hb hown (hts _ (List.mem_of_getElem? (i := 2) rfl)) dX6_aim_15 ?_
    refine x_calli hG hw (va_runS (As := [.long (x2).toInt64, .long (0 : Int64), .long (3 : Int64)]) (rest := []) ⟨hx, hb, hml, hown, hts⟩ (c_X6_in (l := l) (G := G) h) (va_cwS 3 hts gX6_aim_X6_in rfl rfl rfl (by decide +kernel) ⟨Nat.le_of_ble_eq_true rfl, Nat.le_of_ble_eq_true rfl⟩) (x_preS hG hw) rfl rfl hl.1 rfl (lv_room (Nat.le_of_ble_eq_true rfl)) dX6_aim_18 ⟨Nat.le_of_ble_eq_true rfl, Nat.le_of_ble_eq_true rfl⟩) (fun r_3 A9 L9 H locs hw h => ?_)
    rw [h.2.1, h.2.2] at hw
    have h := h.1
    refine lv_if_ne (tgt := 28) hx hb dX6_aim_21 (by decide) (fun c_4 => ?_) (fun c_4 => ?_)
    · have h := h.1 c_4
      refine lv_aload_n hx hb dX6_aim_28 rfl (lv_at hl 0 rfl) ?_
      refine x_callv hG hw (va_runV (As := []) (rest := []) ⟨hx, hb, hml, hown, hts⟩ (c_X6_heap (l := l) (G := G) h) (cwV 0 hts gX6_aim_X6_heap rfl rfl rfl (by decide +kernel) ⟨Nat.le_of_ble_eq_true rfl, Nat.le_of_ble_eq_true rfl⟩) (x_preV hG hw xO23 rfl) rfl rfl hl.1 rfl (lv_room (Nat.le_of_ble_eq_true rfl)) dX6_aim_29 ⟨Nat.le_of_ble_eq_true rfl, Nat.le_of_ble_eq_true rfl⟩) (fun A_5 L_6 H locs hw h => ?_)
      refine lv_aload_n hx hb dX6_aim_32 rfl (lv_at hl 0 rfl) ?_
      refine lv_iload_n hx hb dX6_aim_33 rfl (lv_at hl 1 rfl) ?_
      refine x_calli hG hw (va_runV (As := [.int x1]) (rest := []) ⟨hx, hb, hml, hown, hts⟩ (c_X6_firstSet (l := l) (G := G) h) (cwV 1 hts gX6_aim_X6_firstSet rfl rfl rfl (by decide +kernel) ⟨Nat.le_of_ble_eq_true rfl, Nat.le_of_ble_eq_true rfl⟩) (x_preV hG hw xO23 rfl) rfl rfl hl.1 rfl (lv_room (Nat.le_of_ble_eq_true rfl)) dX6_aim_34 ⟨Nat.le_of_ble_eq_true rfl, Nat.le_of_ble_eq_true rfl⟩) (fun r_7 A9 L9 H locs hw h => ?_)
      rw [h.2.1, h.2.2] at hw
      have h := h.1
      refine lv_istore_n (lv' := [(3, .int r_7), (0, .ref (xad G 23)), (1, .int x1), (2, .int x2)]) hx hb dX6_aim_37 rfl hl (by decide) rfl (fun ls hl => ?_)
      refine lv_iload_n hx hb dX6_aim_38 rfl (lv_at hl 3 rfl) ?_
      by_cases c_8 : x2.toInt < 0 ∨ 2 < x2.toInt
      · have h := h.1 c_8
        refine lv_tableOut (tgt := 89) hx hb dX6_aim_39 c_8 (by decide) ?_
        refine lv_aload_n hx hb dX6_aim_89 rfl (lv_at hl 1 rfl) ?_
        refine lv_iload_n hx hb dX6_aim_90 rfl (lv_at hl 2 rfl) ?_
        refine x_calli hG hw (va_runV (As := [.int x1]) (rest := []) ⟨hx, hb, hml, hown, hts⟩ (c_X6_nearest (l := l) (G := G) h) (cwV 1 hts gX6_aim_X6_nearest rfl rfl rfl (by decide +kernel) ⟨Nat.le_of_ble_eq_true rfl, Nat.le_of_ble_eq_true rfl⟩) (x_preV hG hw xO23 rfl) rfl rfl hl.1 rfl (lv_room (Nat.le_of_ble_eq_true rfl)) dX6_aim_91 ⟨Nat.le_of_ble_eq_true rfl, Nat.le_of_ble_eq_true rfl⟩) (fun r_9 A9 L9 H locs hw h => ?_)
        rw [h.2.1, h.2.2] at hw
        have h := h.1
        exact x_iret hx hb hr hlocks hG hw h dX6_aim_94
      · rcases (show x2.toInt = 0 ∨ x2.toInt = 1 ∨ x2.toInt = 2 by omega) with c8 | c8 | c8
        · have c9 : x2 = (0 : Int32) := Int32.toInt_inj.mp (c8.trans (by decide))
          have h := h.2.1 c9
          refine lv_tableIn (tgt := 64) hx hb dX6_aim_39 (by omega) (by omega) (by rw [c8]; rfl) (by decide) ?_
          refine lv_iload_n hx hb dX6_aim_64 rfl (lv_at hl 0 rfl) ?_
          refine lv_if_lt (tgt := 72) hx hb dX6_aim_65 (by decide) (fun c_10 => ?_) (fun c_10 => ?_)
          · have h := h.1 c_10
            refine lv_iconst (v := 0) hx hb dX6_aim_72 (by decide) ?_
            exact x_iret hx hb hr hlocks hG hw h dX6_aim_73
          · have h := h.2 c_10
            refine lv_iconst (v := 1) hx hb dX6_aim_68 (by decide) ?_
            refine lv_goto (tgt := 73) hx hb dX6_aim_69 (by decide) ?_
            exact x_iret hx hb hr hlocks hG hw h dX6_aim_73
        · have c9 : x2 = (1 : Int32) := Int32.toInt_inj.mp (c8.trans (by decide))
          have h := h.2.2.1 c9
          refine lv_tableIn (tgt := 74) hx hb dX6_aim_39 (by omega) (by omega) (by rw [c8]; rfl) (by decide) ?_
          refine lv_iload_n hx hb dX6_aim_74 rfl (lv_at hl 0 rfl) ?_
          refine lv_if_lt (tgt := 85) hx hb dX6_aim_75 (by decide) (fun c_11 => ?_) (fun c_11 => ?_)
          · have h := h.1 c_11
            refine lv_iconst (v := (-1)) hx hb dX6_aim_85 (by decide) ?_
            exact x_iret hx hb hr hlocks hG hw h dX6_aim_86
          · have h := h.2 c_11
            refine lv_iload_n hx hb dX6_aim_78 rfl (lv_at hl 0 rfl) ?_
            refine x_calli hG hw (va_runS (As := [.int r_7]) (rest := []) ⟨hx, hb, hml, hown, hts⟩ (c_X6_bits (l := l) (G := G) h) (va_cwS 1 hts gX6_aim_X6_bits rfl rfl rfl (by decide +kernel) ⟨Nat.le_of_ble_eq_true rfl, Nat.le_of_ble_eq_true rfl⟩) (x_preS hG hw) rfl rfl hl.1 rfl (lv_room (Nat.le_of_ble_eq_true rfl)) dX6_aim_79 ⟨Nat.le_of_ble_eq_true rfl, Nat.le_of_ble_eq_true rfl⟩) (fun r_12 A9 L9 H locs hw h => ?_)
            rw [h.2.1, h.2.2] at hw
            have h := h.1
            refine lv_goto (tgt := 86) hx hb dX6_aim_82 (by decide) ?_
            exact x_iret hx hb hr hlocks hG hw h dX6_aim_86
        · have c9 : x2 = (2 : Int32) := Int32.toInt_inj.mp (c8.trans (by decide))
          have h := h.2.2.2 c9
          refine lv_tableIn (tgt := 87) hx hb dX6_aim_39 (by omega) (by omega) (by rw [c8]; rfl) (by decide) ?_
          refine lv_iload_n hx hb dX6_aim_87 rfl (lv_at hl 0 rfl) ?_
          exact x_iret hx hb hr hlocks hG hw h dX6_aim_88
    · have h := h.2 c_4
      refine lv_sipush (v := (-1002)) hx hb dX6_aim_24 (by decide) ?_
      exact x_iret hx hb hr hlocks hG hw h dX6_aim_27
theorem c_X6_aim {l : Launch} {G : xGt} {x1 : Int32} {x2 : Int32} {A : xM} {L : xL} {post : Int32 → xM → xL → Prop} (h : v_X6_aim x1 x2 A L post) : Met l yX6_aim wsX6_aim rX6_aim (va_Pc [.ref (xad G 23), .int x1, .int x2] (xPre G A L)) (xQi G post) 0 0 (xAf G) :=
  x_met RX6 rfl (by decide) rfl (Nat.le_of_ble_eq_true rfl) (fun p e s m below meth c ls C0 hw hl => t_X6_aim_0 C0 hw hl h)
end MECH
abbrev rX6_later : Room := { frames := 0, cells := 0, slots := 0, locals := 0 }
theorem inX6_later_X6 : ∀ w ∈ wsX60, w ∈ wsX6_later := fun w h => List.mem_cons_of_mem _ (List.mem_append_right _ h)
def v_X6_later (x1 : Int32) (x2 : Int32) (A : xM) (L : xL) (post : xM → xL → Prop) : Prop := vp_in (A 23 16) 40 ∧ (∀ A_2 : xM, A_2 = xu A 31 (A 23 16).toNatClampNeg x1 → (vp_in (A_2 23 16) 40 ∧ (∀ A_4 : xM, A_4 = xu A_2 32 (A_2 23 16).toNatClampNeg x2 → (∀ A_5 : xM, A_5 = xu A_4 23 16 ((A_4 23 16) + (1 : Int32)) → (post A_5 L)))))
section MECH
variable {p : Program} {l : Launch} {e : Env} {s : State} {m : MethodId} {args : Array Value} {below : List Frame} {meth : Method} {c : Code} {G : xGt}
set_option maxHeartbeats 4000000 in
set_option maxRecDepth 100000 in
theorem t_X6_later_0 (C0 : xC p s m args meth c G cX6_later none wsX6_later RX6 3) {post : xM → xL → Prop} {x1 : Int32} {x2 : Int32} {A : xM} {L : xL} {H : Heap} {locs : List Loc} {ls : Array Slot} (hw : xW G s.heap A L H locs) (hl : lv_has ls 3 [(0, .ref (xad G 23)), (1, .int x1), (2, .int x2)]) (h : v_X6_later x1 x2 A L post) : W p l e rX6_later s m args below meth c H locs 0 0 (MQ below (xQv G post) args s 0 0 (xAf G)) (F0 m 0 ls []) := by
  obtain ⟨hx, hb, hr, hts, hown, hml, hlocks, hG⟩ := id C0
  unfold v_X6_later at h
  refine lv_aload_n hx hb dX6_later_0 rfl (lv_at hl 0 rfl) ?_
  refine x_get (C := RX6) (T := TX6) (N := 20) hx hb hts inX6_later_X6 hown hG hw xO23 rfl 14 (by decide) (hts (.fieldLink RX6 40 "SixNumbersModel" "todoSet" "[I") (List.mem_of_getElem? (i := 1) rfl)) (fun _ h9 => h9) (v := .ref (xad G 31)) rfl dX6_later_1 ?_
  refine lv_aload_n hx hb dX6_later_4 rfl (lv_at hl 0 rfl) ?_
  refine x_get (C := RX6) (T := TX6) (N := 20) hx hb hts inX6_later_X6 hown hG hw xO23 rfl 16 (by decide) (hts (.fieldLink RX6 137 "SixNumbersModel" "todos" "I") (List.mem_of_getElem? (i := 2) rfl)) (fun _ h9 => h9) (v := .int (A 23 16)) rfl dX6_later_5 ?_
  refine lv_iload_n hx hb dX6_later_8 rfl (lv_at hl 1 rfl) ?_
  have i_1 := h.1
  have h := h.2
  refine x_iast hx hb hG hw xb31 i_1 dX6_later_9 (fun A_2 H locs eA_2 hw => ?_)
  have h := h A_2 eA_2
  refine lv_aload_n hx hb dX6_later_10 rfl (lv_at hl 0 rfl) ?_
  refine x_get (C := RX6) (T := TX6) (N := 20) hx hb hts inX6_later_X6 hown hG hw xO23 rfl 15 (by decide) (hts (.fieldLink RX6 43 "SixNumbersModel" "todoValue" "[I") (List.mem_of_getElem? (i := 3) rfl)) (fun _ h9 => h9) (v := .ref (xad G 32)) rfl dX6_later_11 ?_
  refine lv_aload_n hx hb dX6_later_14 rfl (lv_at hl 0 rfl) ?_
  refine x_get (C := RX6) (T := TX6) (N := 20) hx hb hts inX6_later_X6 hown hG hw xO23 rfl 16 (by decide) (hts (.fieldLink RX6 137 "SixNumbersModel" "todos" "I") (List.mem_of_getElem? (i := 2) rfl)) (fun _ h9 => h9) (v := .int (A_2 23 16)) rfl dX6_later_15 ?_
  refine lv_iload_n hx hb dX6_later_18 rfl (lv_at hl 2 rfl) ?_
  have i_3 := h.1
  have h := h.2
  refine x_iast hx hb hG hw xb32 i_3 dX6_later_19 (fun A_4 H locs eA_4 hw => ?_)
  have h := h A_4 eA_4
  refine lv_aload_n hx hb dX6_later_20 rfl (lv_at hl 0 rfl) ?_
  refine lv_dup hx hb dX6_later_21 rfl ?_
  refine x_get (C := RX6) (T := TX6) (N := 20) hx hb hts inX6_later_X6 hown hG hw xO23 rfl 16 (by decide) (hts (.fieldLink RX6 137 "SixNumbersModel" "todos" "I") (List.mem_of_getElem? (i := 2) rfl)) (fun _ h9 => h9) (v := .int (A_4 23 16)) rfl dX6_later_22 ?_
  refine lv_iconst (v := 1) hx hb dX6_later_25 (by decide) ?_
  refine lv_iadd hx hb dX6_later_26 ?_
  refine x_put (C := RX6) (T := TX6) (N := 20) hx hb hts inX6_later_X6 tyX6 tyX6_ok nmX6 hown hG hw xO23 rfl 16 (by decide) (hts (.fieldLink RX6 137 "SixNumbersModel" "todos" "I") (List.mem_of_getElem? (i := 2) rfl)) (fun _ h9 => h9) rfl (ty := .int) (by decide +kernel) rfl rfl (Nat.le_of_ble_eq_true rfl) rfl dX6_later_27 (fun A_5 H locs eA_5 hw => ?_)
  have h := h A_5 eA_5
  exact x_vret hx hb hr hlocks hG hw h dX6_later_30
theorem c_X6_later {l : Launch} {G : xGt} {x1 : Int32} {x2 : Int32} {A : xM} {L : xL} {post : xM → xL → Prop} (h : v_X6_later x1 x2 A L post) : Met l yX6_later wsX6_later rX6_later (va_Pc [.ref (xad G 23), .int x1, .int x2] (xPre G A L)) (xQv G post) 0 0 (xAf G) :=
  x_met RX6 rfl (by decide) rfl (Nat.le_of_ble_eq_true rfl) (fun p e s m below meth c ls C0 hw hl => t_X6_later_0 C0 hw hl h)
end MECH
abbrev rX6_put : Room := { frames := 0, cells := 0, slots := 0, locals := 0 }
theorem inX6_put_X6 : ∀ w ∈ wsX60, w ∈ wsX6_put := fun w h => List.mem_cons_of_mem _ (List.mem_append_right _ h)
def v_X6_put (x1 : Int32) (A : xM) (L : xL) (post : xM → xL → Prop) : Prop := vp_in (A 23 7) 100 ∧ (∀ A_2 : xM, A_2 = xu A 26 (A 23 7).toNatClampNeg x1 → (∀ A_3 : xM, A_3 = xu A_2 23 7 ((A_2 23 7) + (1 : Int32)) → (post A_3 L)))
section MECH
variable {p : Program} {l : Launch} {e : Env} {s : State} {m : MethodId} {args : Array Value} {below : List Frame} {meth : Method} {c : Code} {G : xGt}
set_option maxHeartbeats 4000000 in
set_option maxRecDepth 100000 in
theorem t_X6_put_0 (C0 : xC p s m args meth c G cX6_put none wsX6_put RX6 2) {post : xM → xL → Prop} {x1 : Int32} {A : xM} {L : xL} {H : Heap} {locs : List Loc} {ls : Array Slot} (hw : xW G s.heap A L H locs) (hl : lv_has ls 2 [(0, .ref (xad G 23)), (1, .int x1)]) (h : v_X6_put x1 A L post) : W p l e rX6_put s m args below meth c H locs 0 0 (MQ below (xQv G post) args s 0 0 (xAf G)) (F0 m 0 ls []) := by
  obtain ⟨hx, hb, hr, hts, hown, hml, hlocks, hG⟩ := id C0
  unfold v_X6_put at h
  refine lv_aload_n hx hb dX6_put_0 rfl (lv_at hl 0 rfl) ?_
  refine x_get (C := RX6) (T := TX6) (N := 20) hx hb hts inX6_put_X6 hown hG hw xO23 rfl 6 (by decide) (hts (.fieldLink RX6 23 "SixNumbersModel" "out" "[I") (List.mem_of_getElem? (i := 1) rfl)) (fun _ h9 => h9) (v := .ref (xad G 26)) rfl dX6_put_1 ?_
  refine lv_aload_n hx hb dX6_put_4 rfl (lv_at hl 0 rfl) ?_
  refine x_get (C := RX6) (T := TX6) (N := 20) hx hb hts inX6_put_X6 hown hG hw xO23 rfl 7 (by decide) (hts (.fieldLink RX6 81 "SixNumbersModel" "outSize" "I") (List.mem_of_getElem? (i := 2) rfl)) (fun _ h9 => h9) (v := .int (A 23 7)) rfl dX6_put_5 ?_
  refine lv_iload_n hx hb dX6_put_8 rfl (lv_at hl 1 rfl) ?_
  have i_1 := h.1
  have h := h.2
  refine x_iast hx hb hG hw xb26 i_1 dX6_put_9 (fun A_2 H locs eA_2 hw => ?_)
  have h := h A_2 eA_2
  refine lv_aload_n hx hb dX6_put_10 rfl (lv_at hl 0 rfl) ?_
  refine lv_dup hx hb dX6_put_11 rfl ?_
  refine x_get (C := RX6) (T := TX6) (N := 20) hx hb hts inX6_put_X6 hown hG hw xO23 rfl 7 (by decide) (hts (.fieldLink RX6 81 "SixNumbersModel" "outSize" "I") (List.mem_of_getElem? (i := 2) rfl)) (fun _ h9 => h9) (v := .int (A_2 23 7)) rfl dX6_put_12 ?_
  refine lv_iconst (v := 1) hx hb dX6_put_15 (by decide) ?_
  refine lv_iadd hx hb dX6_put_16 ?_
  refine x_put (C := RX6) (T := TX6) (N := 20) hx hb hts inX6_put_X6 tyX6 tyX6_ok nmX6 hown hG hw xO23 rfl 7 (by decide) (hts (.fieldLink RX6 81 "SixNumbersModel" "outSize" "I") (List.mem_of_getElem? (i := 2) rfl)) (fun _ h9 => h9) rfl (ty := .int) (by decide +kernel) rfl rfl (Nat.le_of_ble_eq_true rfl) rfl dX6_put_17 (fun A_3 H locs eA_3 hw => ?_)
  have h := h A_3 eA_3
  exact x_vret hx hb hr hlocks hG hw h dX6_put_20
theorem c_X6_put {l : Launch} {G : xGt} {x1 : Int32} {A : xM} {L : xL} {post : xM → xL → Prop} (h : v_X6_put x1 A L post) : Met l yX6_put wsX6_put rX6_put (va_Pc [.ref (xad G 23), .int x1] (xPre G A L)) (xQv G post) 0 0 (xAf G) :=
  x_met RX6 rfl (by decide) rfl (Nat.le_of_ble_eq_true rfl) (fun p e s m below meth c ls C0 hw hl => t_X6_put_0 C0 hw hl h)
end MECH
abbrev rX6_putNumber : Room := { frames := 1, cells := 0, slots := 0, locals := 21 }
def v_X6_putNumber_37 (x1 : Int32) (A : xM) (L : xL) (post : xM → xL → Prop) : Prop := v_X6_put ((48 : Int32) + (x1 - x1 / (10 : Int32) * (10 : Int32))) A L (fun (A_1 : xM) (L_2 : xL) => (post A_1 L_2))
def v_X6_putNumber_17 (x1 : Int32) (A : xM) (L : xL) (post : xM → xL → Prop) : Prop := (x1 ≤ (9 : Int32) → (v_X6_putNumber_37 x1 A L post)) ∧ (¬ x1 ≤ (9 : Int32) → (v_X6_put ((48 : Int32) + ((x1 / (10 : Int32)) - (x1 / (10 : Int32)) / (10 : Int32) * (10 : Int32))) A L (fun (A_2 : xM) (L_3 : xL) => (v_X6_putNumber_37 x1 A_2 L_3 post))))
def v_X6_putNumber (x1 : Int32) (A : xM) (L : xL) (post : xM → xL → Prop) : Prop := (x1 ≤ (99 : Int32) → (v_X6_putNumber_17 x1 A L post)) ∧ (¬ x1 ≤ (99 : Int32) → (v_X6_put ((48 : Int32) + (x1 / (100 : Int32))) A L (fun (A_2 : xM) (L_3 : xL) => (v_X6_putNumber_17 x1 A_2 L_3 post))))
section MECH
variable {p : Program} {l : Launch} {e : Env} {s : State} {m : MethodId} {args : Array Value} {below : List Frame} {meth : Method} {c : Code} {G : xGt}
set_option maxHeartbeats 4000000 in
set_option maxRecDepth 100000 in
theorem t_X6_putNumber_37 (C0 : xC p s m args meth c G cX6_putNumber none wsX6_putNumber RX6 2) {post : xM → xL → Prop} {x1 : Int32} {A : xM} {L : xL} {H : Heap} {locs : List Loc} {ls : Array Slot} (hw : xW G s.heap A L H locs) (hl : lv_has ls 2 [(0, .ref (xad G 23)), (1, .int x1)]) (h : v_X6_putNumber_37 x1 A L post) : W p l e rX6_putNumber s m args below meth c H locs 0 0 (MQ below (xQv G post) args s 0 0 (xAf G)) (F0 m 37 ls []) := by
  obtain ⟨hx, hb, hr, hts, hown, hml, hlocks, hG⟩ := id C0
  unfold v_X6_putNumber_37 at h
  refine lv_aload_n hx hb dX6_putNumber_37 rfl (lv_at hl 0 rfl) ?_
  refine lv_bipush (v := 48) hx hb dX6_putNumber_38 (by decide) ?_
  refine lv_iload_n hx hb dX6_putNumber_40 rfl (lv_at hl 1 rfl) ?_
  refine lv_bipush (v := 10) hx hb dX6_putNumber_41 (by decide) ?_
  refine lv_irem hx hb dX6_putNumber_43 (by decide) ?_
  refine lv_iadd hx hb dX6_putNumber_44 ?_
  refine x_callv hG hw (va_runV (As := [.int ((48 : Int32) + (x1 - x1 / (10 : Int32) * (10 : Int32)))]) (rest := []) ⟨hx, hb, hml, hown, hts⟩ (c_X6_put (l := l) (G := G) h) (cwV 1 hts gX6_putNumber_X6_put rfl rfl rfl (by decide +kernel) ⟨Nat.le_of_ble_eq_true rfl, Nat.le_of_ble_eq_true rfl⟩) (x_preV hG hw xO23 rfl) rfl rfl hl.1 rfl (lv_room (Nat.le_of_ble_eq_true rfl)) dX6_putNumber_45 ⟨Nat.le_of_ble_eq_true rfl, Nat.le_of_ble_eq_true rfl⟩) (fun A_1 L_2 H locs hw h => ?_)
  exact x_vret hx hb hr hlocks hG hw h dX6_putNumber_48
set_option maxHeartbeats 4000000 in
set_option maxRecDepth 100000 in
theorem t_X6_putNumber_17 (C0 : xC p s m args meth c G cX6_putNumber none wsX6_putNumber RX6 2) {post : xM → xL → Prop} {x1 : Int32} {A : xM} {L : xL} {H : Heap} {locs : List Loc} {ls : Array Slot} (hw : xW G s.heap A L H locs) (hl : lv_has ls 2 [(0, .ref (xad G 23)), (1, .int x1)]) (h : v_X6_putNumber_17 x1 A L post) : W p l e rX6_putNumber s m args below meth c H locs 0 0 (MQ below (xQv G post) args s 0 0 (xAf G)) (F0 m 17 ls []) := by
  obtain ⟨hx, hb, hr, hts, hown, hml, hlocks, hG⟩ := id C0
  unfold v_X6_putNumber_17 at h
  refine lv_iload_n hx hb dX6_putNumber_17 rfl (lv_at hl 1 rfl) ?_
  refine lv_bipush (v := 9) hx hb dX6_putNumber_18 (by decide) ?_
  refine lv_icmp_le (tgt := 37) hx hb dX6_putNumber_20 (by decide) (fun c_1 => ?_) (fun c_1 => ?_)
  · have h := h.1 c_1
    exact t_X6_putNumber_37 C0 hw (lv_sub hl [0, 1] rfl) h
  · have h := h.2 c_1
    refine lv_aload_n hx hb dX6_putNumber_23 rfl (lv_at hl 0 rfl) ?_
    refine lv_bipush (v := 48) hx hb dX6_putNumber_24 (by decide) ?_
    refine lv_iload_n hx hb dX6_putNumber_26 rfl (lv_at hl 1 rfl) ?_
    refine lv_bipush (v := 10) hx hb dX6_putNumber_27 (by decide) ?_
    refine lv_idiv hx hb dX6_putNumber_29 (by decide) ?_
    refine lv_bipush (v := 10) hx hb dX6_putNumber_30 (by decide) ?_
    refine lv_irem hx hb dX6_putNumber_32 (by decide) ?_
    refine lv_iadd hx hb dX6_putNumber_33 ?_
    refine x_callv hG hw (va_runV (As := [.int ((48 : Int32) + ((x1 / (10 : Int32)) - (x1 / (10 : Int32)) / (10 : Int32) * (10 : Int32)))]) (rest := []) ⟨hx, hb, hml, hown, hts⟩ (c_X6_put (l := l) (G := G) h) (cwV 1 hts gX6_putNumber_X6_put rfl rfl rfl (by decide +kernel) ⟨Nat.le_of_ble_eq_true rfl, Nat.le_of_ble_eq_true rfl⟩) (x_preV hG hw xO23 rfl) rfl rfl hl.1 rfl (lv_room (Nat.le_of_ble_eq_true rfl)) dX6_putNumber_34 ⟨Nat.le_of_ble_eq_true rfl, Nat.le_of_ble_eq_true rfl⟩) (fun A_2 L_3 H locs hw h => ?_)
    exact t_X6_putNumber_37 C0 hw (lv_sub hl [0, 1] rfl) h
set_option maxHeartbeats 4000000 in
set_option maxRecDepth 100000 in
theorem t_X6_putNumber_0 (C0 : xC p s m args meth c G cX6_putNumber none wsX6_putNumber RX6 2) {post : xM → xL → Prop} {x1 : Int32} {A : xM} {L : xL} {H : Heap} {locs : List Loc} {ls : Array Slot} (hw : xW G s.heap A L H locs) (hl : lv_has ls 2 [(0, .ref (xad G 23)), (1, .int x1)]) (h : v_X6_putNumber x1 A L post) : W p l e rX6_putNumber s m args below meth c H locs 0 0 (MQ below (xQv G post) args s 0 0 (xAf G)) (F0 m 0 ls []) := by
  obtain ⟨hx, hb, hr, hts, hown, hml, hlocks, hG⟩ := id C0
  unfold v_X6_putNumber at h
  refine lv_iload_n hx hb dX6_putNumber_0 rfl (lv_at hl 1 rfl) ?_
  refine lv_bipush (v := 99) hx hb dX6_putNumber_1 (by decide) ?_
  refine lv_icmp_le (tgt := 17) hx hb dX6_putNumber_3 (by decide) (fun c_1 => ?_) (fun c_1 => ?_)
  · have h := h.1 c_1
    exact t_X6_putNumber_17 C0 hw (lv_sub hl [0, 1] rfl) h
  · have h := h.2 c_1
    refine lv_aload_n hx hb dX6_putNumber_6 rfl (lv_at hl 0 rfl) ?_
    refine lv_bipush (v := 48) hx hb dX6_putNumber_7 (by decide) ?_
    refine lv_iload_n hx hb dX6_putNumber_9 rfl (lv_at hl 1 rfl) ?_
    refine lv_bipush (v := 100) hx hb dX6_putNumber_10 (by decide) ?_
    refine lv_idiv hx hb dX6_putNumber_12 (by decide) ?_
    refine lv_iadd hx hb dX6_putNumber_13 ?_
    refine x_callv hG hw (va_runV (As := [.int ((48 : Int32) + (x1 / (100 : Int32)))]) (rest := []) ⟨hx, hb, hml, hown, hts⟩ (c_X6_put (l := l) (G := G) h) (cwV 1 hts gX6_putNumber_X6_put rfl rfl rfl (by decide +kernel) ⟨Nat.le_of_ble_eq_true rfl, Nat.le_of_ble_eq_true rfl⟩) (x_preV hG hw xO23 rfl) rfl rfl hl.1 rfl (lv_room (Nat.le_of_ble_eq_true rfl)) dX6_putNumber_14 ⟨Nat.le_of_ble_eq_true rfl, Nat.le_of_ble_eq_true rfl⟩) (fun A_2 L_3 H locs hw h => ?_)
    exact t_X6_putNumber_17 C0 hw (lv_sub hl [0, 1] rfl) h
theorem c_X6_putNumber {l : Launch} {G : xGt} {x1 : Int32} {A : xM} {L : xL} {post : xM → xL → Prop} (h : v_X6_putNumber x1 A L post) : Met l yX6_putNumber wsX6_putNumber rX6_putNumber (va_Pc [.ref (xad G 23), .int x1] (xPre G A L)) (xQv G post) 0 0 (xAf G) :=
  x_met RX6 rfl (by decide) rfl (Nat.le_of_ble_eq_true rfl) (fun p e s m below meth c ls C0 hw hl => t_X6_putNumber_0 C0 hw hl h)
end MECH
abbrev rX6_other : Room := { frames := 0, cells := 0, slots := 0, locals := 0 }
def v_X6_other (x1 : Int32) (x2 : Int32) (x3 : Int32) (post : Int32 → Prop) : Prop := (x1.toInt < 0 ∨ 2 < x1.toInt → (¬ x3 = 0 ∧ ((¬ (x2 - x2 / x3 * x3) = 0 → (post (-1 : Int32))) ∧ ((x2 - x2 / x3 * x3) = 0 → (¬ x3 = 0 ∧ (post (x2 / x3))))))) ∧ (x1 = (0 : Int32) → ((x3 ≤ x2 → (post (-1 : Int32))) ∧ (¬ x3 ≤ x2 → (post (x3 - x2))))) ∧ (x1 = (1 : Int32) → ((x2 ≤ x3 → (post (-1 : Int32))) ∧ (¬ x2 ≤ x3 → (post (x2 - x3))))) ∧ (x1 = (2 : Int32) → (¬ x2 = 0 ∧ ((¬ (x3 - x3 / x2 * x2) = 0 → (post (-1 : Int32))) ∧ ((x3 - x3 / x2 * x2) = 0 → (¬ x2 = 0 ∧ (post (x3 / x2)))))))
section MECH
variable {p : Program} {l : Launch} {e : Env} {s : State} {m : MethodId} {args : Array Value} {below : List Frame} {meth : Method} {c : Code} {G : xGt}
set_option maxHeartbeats 4000000 in
set_option maxRecDepth 100000 in
theorem t_X6_other_0 (C0 : xC p s m args meth c G cX6_other (some .int) wsX6_other RX6 4) {post : Int32 → Prop} {x1 : Int32} {x2 : Int32} {x3 : Int32} {A : xM} {L : xL} {H : Heap} {locs : List Loc} {ls : Array Slot} (hw : xW G s.heap A L H locs) (hl : lv_has ls 4 [(0, .ref (xad G 23)), (1, .int x1), (2, .int x2), (3, .int x3)]) (h : v_X6_other x1 x2 x3 post) : W p l e rX6_other s m args below meth c H locs 0 0 (MQ below (xQi G (xpi A L post)) args s 0 0 (xAf G)) (F0 m 0 ls []) := by
  obtain ⟨hx, hb, hr, hts, hown, hml, hlocks, hG⟩ := id C0
  unfold v_X6_other at h
  refine lv_iload_n hx hb dX6_other_0 rfl (lv_at hl 1 rfl) ?_
  by_cases c_1 : x1.toInt < 0 ∨ 2 < x1.toInt
  · have h := h.1 c_1
    refine lv_tableOut (tgt := 68) hx hb dX6_other_1 c_1 (by decide) ?_
    refine lv_iload_n hx hb dX6_other_68 rfl (lv_at hl 2 rfl) ?_
    refine lv_iload_n hx hb dX6_other_69 rfl (lv_at hl 3 rfl) ?_
    have z_2 := h.1
    have h := h.2
    refine lv_irem hx hb dX6_other_70 z_2 ?_
    refine lv_if_ne (tgt := 80) hx hb dX6_other_71 (by decide) (fun c_3 => ?_) (fun c_3 => ?_)
    · have h := h.1 c_3
      refine lv_iconst (v := (-1)) hx hb dX6_other_80 (by decide) ?_
      exact x_iret hx hb hr hlocks hG hw ⟨h, rfl, rfl⟩ dX6_other_81
    · have h := h.2 c_3
      refine lv_iload_n hx hb dX6_other_74 rfl (lv_at hl 2 rfl) ?_
      refine lv_iload_n hx hb dX6_other_75 rfl (lv_at hl 3 rfl) ?_
      have z_4 := h.1
      have h := h.2
      refine lv_idiv hx hb dX6_other_76 z_4 ?_
      refine lv_goto (tgt := 81) hx hb dX6_other_77 (by decide) ?_
      exact x_iret hx hb hr hlocks hG hw ⟨h, rfl, rfl⟩ dX6_other_81
  · rcases (show x1.toInt = 0 ∨ x1.toInt = 1 ∨ x1.toInt = 2 by omega) with c8 | c8 | c8
    · have c9 : x1 = (0 : Int32) := Int32.toInt_inj.mp (c8.trans (by decide))
      have h := h.2.1 c9
      refine lv_tableIn (tgt := 28) hx hb dX6_other_1 (by omega) (by omega) (by rw [c8]; rfl) (by decide) ?_
      refine lv_iload_n hx hb dX6_other_28 rfl (lv_at hl 3 rfl) ?_
      refine lv_iload_n hx hb dX6_other_29 rfl (lv_at hl 2 rfl) ?_
      refine lv_icmp_le (tgt := 39) hx hb dX6_other_30 (by decide) (fun c_5 => ?_) (fun c_5 => ?_)
      · have h := h.1 c_5
        refine lv_iconst (v := (-1)) hx hb dX6_other_39 (by decide) ?_
        exact x_iret hx hb hr hlocks hG hw ⟨h, rfl, rfl⟩ dX6_other_40
      · have h := h.2 c_5
        refine lv_iload_n hx hb dX6_other_33 rfl (lv_at hl 3 rfl) ?_
        refine lv_iload_n hx hb dX6_other_34 rfl (lv_at hl 2 rfl) ?_
        refine lv_isub hx hb dX6_other_35 ?_
        refine lv_goto (tgt := 40) hx hb dX6_other_36 (by decide) ?_
        exact x_iret hx hb hr hlocks hG hw ⟨h, rfl, rfl⟩ dX6_other_40
    · have c9 : x1 = (1 : Int32) := Int32.toInt_inj.mp (c8.trans (by decide))
      have h := h.2.2.1 c9
      refine lv_tableIn (tgt := 41) hx hb dX6_other_1 (by omega) (by omega) (by rw [c8]; rfl) (by decide) ?_
      refine lv_iload_n hx hb dX6_other_41 rfl (lv_at hl 2 rfl) ?_
      refine lv_iload_n hx hb dX6_other_42 rfl (lv_at hl 3 rfl) ?_
      refine lv_icmp_le (tgt := 52) hx hb dX6_other_43 (by decide) (fun c_6 => ?_) (fun c_6 => ?_)
      · have h := h.1 c_6
        refine lv_iconst (v := (-1)) hx hb dX6_other_52 (by decide) ?_
        exact x_iret hx hb hr hlocks hG hw ⟨h, rfl, rfl⟩ dX6_other_53
      · have h := h.2 c_6
        refine lv_iload_n hx hb dX6_other_46 rfl (lv_at hl 2 rfl) ?_
        refine lv_iload_n hx hb dX6_other_47 rfl (lv_at hl 3 rfl) ?_
        refine lv_isub hx hb dX6_other_48 ?_
        refine lv_goto (tgt := 53) hx hb dX6_other_49 (by decide) ?_
        exact x_iret hx hb hr hlocks hG hw ⟨h, rfl, rfl⟩ dX6_other_53
    · have c9 : x1 = (2 : Int32) := Int32.toInt_inj.mp (c8.trans (by decide))
      have h := h.2.2.2 c9
      refine lv_tableIn (tgt := 54) hx hb dX6_other_1 (by omega) (by omega) (by rw [c8]; rfl) (by decide) ?_
      refine lv_iload_n hx hb dX6_other_54 rfl (lv_at hl 3 rfl) ?_
      refine lv_iload_n hx hb dX6_other_55 rfl (lv_at hl 2 rfl) ?_
      have z_7 := h.1
      have h := h.2
      refine lv_irem hx hb dX6_other_56 z_7 ?_
      refine lv_if_ne (tgt := 66) hx hb dX6_other_57 (by decide) (fun c_8 => ?_) (fun c_8 => ?_)
      · have h := h.1 c_8
        refine lv_iconst (v := (-1)) hx hb dX6_other_66 (by decide) ?_
        exact x_iret hx hb hr hlocks hG hw ⟨h, rfl, rfl⟩ dX6_other_67
      · have h := h.2 c_8
        refine lv_iload_n hx hb dX6_other_60 rfl (lv_at hl 3 rfl) ?_
        refine lv_iload_n hx hb dX6_other_61 rfl (lv_at hl 2 rfl) ?_
        have z_9 := h.1
        have h := h.2
        refine lv_idiv hx hb dX6_other_62 z_9 ?_
        refine lv_goto (tgt := 67) hx hb dX6_other_63 (by decide) ?_
        exact x_iret hx hb hr hlocks hG hw ⟨h, rfl, rfl⟩ dX6_other_67
theorem c_X6_other {l : Launch} {G : xGt} {x1 : Int32} {x2 : Int32} {x3 : Int32} {A : xM} {L : xL} {post : Int32 → Prop} (h : v_X6_other x1 x2 x3 post) : Met l yX6_other wsX6_other rX6_other (va_Pc [.ref (xad G 23), .int x1, .int x2, .int x3] (xPre G A L)) (xQi G (xpi A L post)) 0 0 (xAf G) :=
  x_met RX6 rfl (by decide) rfl (Nat.le_of_ble_eq_true rfl) (fun p e s m below meth c ls C0 hw hl => t_X6_other_0 C0 hw hl h)
end MECH
abbrev rX6_signOf : Room := { frames := 0, cells := 0, slots := 0, locals := 0 }
def v_X6_signOf (x0 : Int32) (post : Int32 → Prop) : Prop := (¬ x0 = 0 → ((¬ x0 = (1 : Int32) → ((¬ x0 = (2 : Int32) → (post (47 : Int32))) ∧ (x0 = (2 : Int32) → (post (42 : Int32))))) ∧ (x0 = (1 : Int32) → (post (45 : Int32))))) ∧ (x0 = 0 → (post (43 : Int32)))
section MECH
variable {p : Program} {l : Launch} {e : Env} {s : State} {m : MethodId} {args : Array Value} {below : List Frame} {meth : Method} {c : Code} {G : xGt}
set_option maxHeartbeats 4000000 in
set_option maxRecDepth 100000 in
theorem t_X6_signOf_0 (C0 : xC p s m args meth c G cX6_signOf (some .int) wsX6_signOf RX6 1) {post : Int32 → Prop} {x0 : Int32} {A : xM} {L : xL} {H : Heap} {locs : List Loc} {ls : Array Slot} (hw : xW G s.heap A L H locs) (hl : lv_has ls 1 [(0, .int x0)]) (h : v_X6_signOf x0 post) : W p l e rX6_signOf s m args below meth c H locs 0 0 (MQ below (xQi G (xpi A L post)) args s 0 0 (xAf G)) (F0 m 0 ls []) := by
  obtain ⟨hx, hb, hr, hts, hown, hml, hlocks, hG⟩ := id C0
  unfold v_X6_signOf at h
  refine lv_iload_n hx hb dX6_signOf_0 rfl (lv_at hl 0 rfl) ?_
  refine lv_if_ne (tgt := 9) hx hb dX6_signOf_1 (by decide) (fun c_1 => ?_) (fun c_1 => ?_)
  · have h := h.1 c_1
    refine lv_iload_n hx hb dX6_signOf_9 rfl (lv_at hl 0 rfl) ?_
    refine lv_iconst (v := 1) hx hb dX6_signOf_10 (by decide) ?_
    refine lv_icmp_ne (tgt := 19) hx hb dX6_signOf_11 (by decide) (fun c_2 => ?_) (fun c_2 => ?_)
    · have h := h.1 c_2
      refine lv_iload_n hx hb dX6_signOf_19 rfl (lv_at hl 0 rfl) ?_
      refine lv_iconst (v := 2) hx hb dX6_signOf_20 (by decide) ?_
      refine lv_icmp_ne (tgt := 29) hx hb dX6_signOf_21 (by decide) (fun c_3 => ?_) (fun c_3 => ?_)
      · have h := h.1 c_3
        refine lv_bipush (v := 47) hx hb dX6_signOf_29 (by decide) ?_
        exact x_iret hx hb hr hlocks hG hw ⟨h, rfl, rfl⟩ dX6_signOf_31
      · have h := h.2 c_3
        refine lv_bipush (v := 42) hx hb dX6_signOf_24 (by decide) ?_
        refine lv_goto (tgt := 31) hx hb dX6_signOf_26 (by decide) ?_
        exact x_iret hx hb hr hlocks hG hw ⟨h, rfl, rfl⟩ dX6_signOf_31
    · have h := h.2 c_2
      refine lv_bipush (v := 45) hx hb dX6_signOf_14 (by decide) ?_
      refine lv_goto (tgt := 31) hx hb dX6_signOf_16 (by decide) ?_
      exact x_iret hx hb hr hlocks hG hw ⟨h, rfl, rfl⟩ dX6_signOf_31
  · have h := h.2 c_1
    refine lv_bipush (v := 43) hx hb dX6_signOf_4 (by decide) ?_
    refine lv_goto (tgt := 31) hx hb dX6_signOf_6 (by decide) ?_
    exact x_iret hx hb hr hlocks hG hw ⟨h, rfl, rfl⟩ dX6_signOf_31
theorem c_X6_signOf {l : Launch} {G : xGt} {x0 : Int32} {A : xM} {L : xL} {post : Int32 → Prop} (h : v_X6_signOf x0 post) : Met l yX6_signOf wsX6_signOf rX6_signOf (va_Pc [.int x0] (xPre G A L)) (xQi G (xpi A L post)) 0 0 (xAf G) :=
  x_met RX6 rfl (by decide) rfl (Nat.le_of_ble_eq_true rfl) (fun p e s m below meth c ls C0 hw hl => t_X6_signOf_0 C0 hw hl h)
end MECH
abbrev rX6_part : Room := { frames := 1, cells := 0, slots := 0, locals := 23 }
theorem inX6_part_X6 : ∀ w ∈ wsX60, w ∈ wsX6_part := fun w h => List.mem_cons_of_mem _ (List.mem_append_right _ h)
def v_X6_part_120 (x1 : Int32) (x2 : Int32) (x3 : Int32) (x4 : Int32) (x5 : Int32) (x6 : Int32) (x7 : Int32) (s0 : Int32) (A : xM) (L : xL) (R_2 : Int32 → xM → xL → Prop) (R_26 : Int32 → xM → xL → Prop) (R_76 : Int32 → xM → xL → Prop) (post : xM → xL → Prop) : Prop := (s0 ≤ 0 → (∀ x7_2 : Int32, x7_2 = x7 + (1 : Int32) → (R_76 x7_2 A L))) ∧ (¬ s0 ≤ 0 → (vp_in (((3001 : Int32) * (x1 &&& (x3 ^^^ (-1 : Int32)))) + s0) 192064 ∧ (((lg_cmp (L 28 (((3001 : Int32) * (x1 &&& (x3 ^^^ (-1 : Int32)))) + s0).toNatClampNeg) (0 : Int64)) ≤ 0 → (∀ x7_5 : Int32, x7_5 = x7 + (1 : Int32) → (R_76 x7_5 A L))) ∧ (¬ (lg_cmp (L 28 (((3001 : Int32) * (x1 &&& (x3 ^^^ (-1 : Int32)))) + s0).toNatClampNeg) (0 : Int64)) ≤ 0 → (v_X6_later (0 : Int32) (41 : Int32) A L (fun (A_6 : xM) (L_7 : xL) => (v_X6_later (x1 &&& (x3 ^^^ (-1 : Int32))) s0 A_6 L_7 (fun (A_8 : xM) (L_9 : xL) => (v_X6_signOf x5 (fun (r_10 : Int32) => (v_X6_later (0 : Int32) r_10 A_8 L_9 (fun (A_11 : xM) (L_12 : xL) => (v_X6_later x3 x7 A_11 L_12 (fun (A_13 : xM) (L_14 : xL) => (v_X6_put (40 : Int32) A_13 L_14 (fun (A_15 : xM) (L_16 : xL) => (post A_15 L_16)))))))))))))))))
def v_X6_part_76 (x1 : Int32) (x2 : Int32) (x3 : Int32) (x4 : Int32) (x5 : Int32) (x6 : Int32) (R_2 : Int32 → xM → xL → Prop) (R_26 : Int32 → xM → xL → Prop) (post : xM → xL → Prop) : Nat → Int32 → xM → xL → Prop
  | 0, _, _, _ => False
  | n + 1, x7, A, L => ((3000 : Int32) < x7 → (∀ x5_2 : Int32, x5_2 = x5 + (1 : Int32) → (R_26 x5_2 A L))) ∧ (¬ (3000 : Int32) < x7 → ((x6 = 0 → (∀ x5_4 : Int32, x5_4 = x5 + (1 : Int32) → (R_26 x5_4 A L))) ∧ (¬ x6 = 0 → (vp_in (((3001 : Int32) * x3) + x7) 192064 ∧ (((lg_cmp (L 28 (((3001 : Int32) * x3) + x7).toNatClampNeg) (0 : Int64)) ≤ 0 → (v_X6_part_120 x1 x2 x3 x4 x5 x6 x7 (-1 : Int32) A L R_2 R_26 (fun x7 A L => v_X6_part_76 x1 x2 x3 x4 x5 x6 R_2 R_26 post n x7 A L) post)) ∧ (¬ (lg_cmp (L 28 (((3001 : Int32) * x3) + x7).toNatClampNeg) (0 : Int64)) ≤ 0 → (v_X6_other x5 x7 x2 (fun (r_7 : Int32) => (v_X6_part_120 x1 x2 x3 x4 x5 x6 x7 r_7 A L R_2 R_26 (fun x7 A L => v_X6_part_76 x1 x2 x3 x4 x5 x6 R_2 R_26 post n x7 A L) post)))))))))
def v_X6_part_71 (x1 : Int32) (x2 : Int32) (x3 : Int32) (x4 : Int32) (x5 : Int32) (s0 : Int32) (A : xM) (L : xL) (R_2 : Int32 → xM → xL → Prop) (R_26 : Int32 → xM → xL → Prop) (post : xM → xL → Prop) : Prop := ∃ k9 : Nat, v_X6_part_76 x1 x2 x3 x4 x5 s0 R_2 R_26 post k9 (1 : Int32) A L
def v_X6_part_70 (x1 : Int32) (x2 : Int32) (x3 : Int32) (x4 : Int32) (x5 : Int32) (A : xM) (L : xL) (R_2 : Int32 → xM → xL → Prop) (R_26 : Int32 → xM → xL → Prop) (post : xM → xL → Prop) : Prop := v_X6_part_71 x1 x2 x3 x4 x5 (0 : Int32) A L R_2 R_26 post
def v_X6_part_26 (x1 : Int32) (x2 : Int32) (x3 : Int32) (x4 : Int32) (R_2 : Int32 → xM → xL → Prop) (post : xM → xL → Prop) : Nat → Int32 → xM → xL → Prop
  | 0, _, _, _ => False
  | n + 1, x5, A, L => ((4 : Int32) ≤ x5 → (∀ x3_2 : Int32, x3_2 = x3 + (1 : Int32) → (R_2 x3_2 A L))) ∧ (¬ (4 : Int32) ≤ x5 → ((¬ (x3 &&& (x1 ^^^ (-1 : Int32))) = 0 → (∀ x3_4 : Int32, x3_4 = x3 + (1 : Int32) → (R_2 x3_4 A L))) ∧ ((x3 &&& (x1 ^^^ (-1 : Int32))) = 0 → (v_X6_may x5 A L (fun (r_5 : Int32) => ((r_5 = 0 → (v_X6_part_70 x1 x2 x3 x4 x5 A L R_2 (fun x5 A L => v_X6_part_26 x1 x2 x3 x4 R_2 post n x5 A L) post)) ∧ (¬ r_5 = 0 → ((¬ x4 = 0 → (v_X6_part_71 x1 x2 x3 x4 x5 (1 : Int32) A L R_2 (fun x5 A L => v_X6_part_26 x1 x2 x3 x4 R_2 post n x5 A L) post)) ∧ (x4 = 0 → ((x5 = (1 : Int32) → (v_X6_part_71 x1 x2 x3 x4 x5 (1 : Int32) A L R_2 (fun x5 A L => v_X6_part_26 x1 x2 x3 x4 R_2 post n x5 A L) post)) ∧ (¬ x5 = (1 : Int32) → ((¬ x5 = (3 : Int32) → (v_X6_part_70 x1 x2 x3 x4 x5 A L R_2 (fun x5 A L => v_X6_part_26 x1 x2 x3 x4 R_2 post n x5 A L) post)) ∧ (x5 = (3 : Int32) → (v_X6_part_71 x1 x2 x3 x4 x5 (1 : Int32) A L R_2 (fun x5 A L => v_X6_part_26 x1 x2 x3 x4 R_2 post n x5 A L) post))))))))))))))
def v_X6_part_21 (x1 : Int32) (x2 : Int32) (x3 : Int32) (s0 : Int32) (A : xM) (L : xL) (R_2 : Int32 → xM → xL → Prop) (post : xM → xL → Prop) : Prop := ∃ k9 : Nat, v_X6_part_26 x1 x2 x3 s0 R_2 post k9 (0 : Int32) A L
def v_X6_part_2 (x1 : Int32) (x2 : Int32) (post : xM → xL → Prop) : Nat → Int32 → xM → xL → Prop
  | 0, _, _, _ => False
  | n + 1, x3, A, L => (x1 ≤ x3 → (post A L)) ∧ (¬ x1 ≤ x3 → ((((x3 &&& x1) &&& (-x1)) = 0 → (v_X6_part_21 x1 x2 x3 (0 : Int32) A L (fun x3 A L => v_X6_part_2 x1 x2 post n x3 A L) post)) ∧ (¬ ((x3 &&& x1) &&& (-x1)) = 0 → (v_X6_part_21 x1 x2 x3 (1 : Int32) A L (fun x3 A L => v_X6_part_2 x1 x2 post n x3 A L) post))))
def v_X6_part (x1 : Int32) (x2 : Int32) (A : xM) (L : xL) (post : xM → xL → Prop) : Prop := ∃ k9 : Nat, v_X6_part_2 x1 x2 post k9 (1 : Int32) A L
section MECH
variable {p : Program} {l : Launch} {e : Env} {s : State} {m : MethodId} {args : Array Value} {below : List Frame} {meth : Method} {c : Code} {G : xGt}
set_option maxHeartbeats 4000000 in
set_option maxRecDepth 100000 in
theorem t_X6_part_120 (C0 : xC p s m args meth c G cX6_part none wsX6_part RX6 9) {post : xM → xL → Prop} {x1 : Int32} {x2 : Int32} {x3 : Int32} {x4 : Int32} {x5 : Int32} {x6 : Int32} {x7 : Int32} {s0 : Int32} {A : xM} {L : xL} {R_2 : Int32 → xM → xL → Prop} (hR_2 : ∀ (x3 : Int32) (A : xM) (L : xL) (H : Heap) (locs : List Loc) (ls : Array Slot), xW G s.heap A L H locs → lv_has ls 9 [(0, .ref (xad G 23)), (1, .int x1), (2, .int x2), (3, .int x3)] → R_2 x3 A L → W p l e rX6_part s m args below meth c H locs 0 0 (MQ below (xQv G post) args s 0 0 (xAf G)) (F0 m 2 ls [])) {R_26 : Int32 → xM → xL → Prop} (hR_26 : ∀ (x5 : Int32) (A : xM) (L : xL) (H : Heap) (locs : List Loc) (ls : Array Slot), xW G s.heap A L H locs → lv_has ls 9 [(0, .ref (xad G 23)), (1, .int x1), (2, .int x2), (3, .int x3), (4, .int x4), (5, .int x5)] → R_26 x5 A L → W p l e rX6_part s m args below meth c H locs 0 0 (MQ below (xQv G post) args s 0 0 (xAf G)) (F0 m 26 ls [])) {R_76 : Int32 → xM → xL → Prop} (hR_76 : ∀ (x7 : Int32) (A : xM) (L : xL) (H : Heap) (locs : List Loc) (ls : Array Slot), xW G s.heap A L H locs → lv_has ls 9 [(0, .ref (xad G 23)), (1, .int x1), (2, .int x2), (3, .int x3), (4, .int x4), (5, .int x5), (6, .int x6), (7, .int x7)] → R_76 x7 A L → W p l e rX6_part s m args below meth c H locs 0 0 (MQ below (xQv G post) args s 0 0 (xAf G)) (F0 m 76 ls [])) {H : Heap} {locs : List Loc} {ls : Array Slot} (hw : xW G s.heap A L H locs) (hl : lv_has ls 9 [(0, .ref (xad G 23)), (1, .int x1), (2, .int x2), (3, .int x3), (4, .int x4), (5, .int x5), (6, .int x6), (7, .int x7)]) (h : v_X6_part_120 x1 x2 x3 x4 x5 x6 x7 s0 A L R_2 R_26 R_76 post) : W p l e rX6_part s m args below meth c H locs 0 0 (MQ below (xQv G post) args s 0 0 (xAf G)) (F0 m 120 ls [.int s0]) := by
  obtain ⟨hx, hb, hr, hts, hown, hml, hlocks, hG⟩ := id C0
  unfold v_X6_part_120 at h
  refine lv_istore (lv' := [(8, .int s0), (0, .ref (xad G 23)), (1, .int x1), (2, .int x2), (3, .int x3), (4, .int x4), (5, .int x5), (6, .int x6), (7, .int x7)]) hx hb dX6_part_120 hl (by decide) rfl (fun ls hl => ?_)
  refine lv_iload hx hb dX6_part_122 (lv_at hl 0 rfl) ?_
  refine lv_if_le (tgt := 191) hx hb dX6_part_124 (by decide) (fun c_1 => ?_) (fun c_1 => ?_)
  · have h := h.1 c_1
    obtain ⟨x7_2, ex7_2⟩ : ∃ y : Int32, y = x7 + (1 : Int32) := ⟨_, rfl⟩
    have h := h x7_2 ex7_2
    refine lv_iinc (v := x7_2) (lv' := [(7, .int x7_2), (8, .int s0), (0, .ref (xad G 23)), (1, .int x1), (2, .int x2), (3, .int x3), (4, .int x4), (5, .int x5), (6, .int x6)]) hx hb dX6_part_191 hl (k := 8) rfl (by rw [ex7_2]; rfl) (by decide) rfl (fun ls hl => ?_)
    refine lv_goto (tgt := 76) hx hb dX6_part_194 (by decide) ?_
    exact hR_76 x7_2 A L _ _ _ hw (lv_sub hl [2, 3, 4, 5, 6, 7, 8, 0] rfl) h
  · have h := h.2 c_1
    refine lv_aload_n hx hb dX6_part_127 rfl (lv_at hl 1 rfl) ?_
    refine x_get (C := RX6) (T := TX6) (N := 20) hx hb hts inX6_part_X6 hown hG hw xO23 rfl 10 (by decide) (hts (.fieldLink RX6 30 "SixNumbersModel" "ways" "[J") (List.mem_of_getElem? (i := 1) rfl)) (fun _ h9 => h9) (v := .ref (xad G 28)) rfl dX6_part_128 ?_
    refine lv_sipush (v := 3001) hx hb dX6_part_131 (by decide) ?_
    refine lv_iload_n hx hb dX6_part_134 rfl (lv_at hl 2 rfl) ?_
    refine lv_iload_n hx hb dX6_part_135 rfl (lv_at hl 4 rfl) ?_
    refine lv_iconst (v := (-1)) hx hb dX6_part_136 (by decide) ?_
    refine lv_ixor hx hb dX6_part_137 ?_
    refine lv_iand hx hb dX6_part_138 ?_
    refine lv_imul hx hb dX6_part_139 ?_
    refine lv_iload hx hb dX6_part_140 (lv_at hl 0 rfl) ?_
    refine lv_iadd hx hb dX6_part_142 ?_
    have i_3 := h.1
    have h := h.2
    refine x_lald hx hb hG hw xb28 i_3 dX6_part_143 ?_
    refine lv_lconst (v := 0) hx hb dX6_part_144 (by decide) ?_
    refine W.lcmp hx hb dX6_part_145 ?_
    refine lv_if_le (tgt := 191) hx hb dX6_part_146 (by decide) (fun c_4 => ?_) (fun c_4 => ?_)
    · have h := h.1 c_4
      obtain ⟨x7_5, ex7_5⟩ : ∃ y : Int32, y = x7 + (1 : Int32) := ⟨_, rfl⟩
      have h := h x7_5 ex7_5
      refine lv_iinc (v := x7_5) (lv' := [(7, .int x7_5), (8, .int s0), (0, .ref (xad G 23)), (1, .int x1), (2, .int x2), (3, .int x3), (4, .int x4), (5, .int x5), (6, .int x6)]) hx hb dX6_part_191 hl (k := 8) rfl (by rw [ex7_5]; rfl) (by decide) rfl (fun ls hl => ?_)
      refine lv_goto (tgt := 76) hx hb dX6_part_194 (by decide) ?_
      exact hR_76 x7_5 A L _ _ _ hw (lv_sub hl [2, 3, 4, 5, 6, 7, 8, 0] rfl) h
    · have h := h.2 c_4
      refine lv_aload_n hx hb dX6_part_149 rfl (lv_at hl 1 rfl) ?_
      refine lv_iconst (v := 0) hx hb dX6_part_150 (by decide) ?_
      refine lv_bipush (v := 41) hx hb dX6_part_151 (by decide) ?_
      refine x_callv hG hw (va_runV (As := [.int (0 : Int32), .int (41 : Int32)]) (rest := []) ⟨hx, hb, hml, hown, hts⟩ (c_X6_later (l := l) (G := G) h) (cwV 2 hts gX6_part_X6_later rfl rfl rfl (by decide +kernel) ⟨Nat.le_of_ble_eq_true rfl, Nat.le_of_ble_eq_true rfl⟩) (x_preV hG hw xO23 rfl) rfl rfl hl.1 rfl (lv_room (Nat.le_of_ble_eq_true rfl)) dX6_part_153 ⟨Nat.le_of_ble_eq_true rfl, Nat.le_of_ble_eq_true rfl⟩) (fun A_6 L_7 H locs hw h => ?_)
      refine lv_aload_n hx hb dX6_part_156 rfl (lv_at hl 1 rfl) ?_
      refine lv_iload_n hx hb dX6_part_157 rfl (lv_at hl 2 rfl) ?_
      refine lv_iload_n hx hb dX6_part_158 rfl (lv_at hl 4 rfl) ?_
      refine lv_iconst (v := (-1)) hx hb dX6_part_159 (by decide) ?_
      refine lv_ixor hx hb dX6_part_160 ?_
      refine lv_iand hx hb dX6_part_161 ?_
      refine lv_iload hx hb dX6_part_162 (lv_at hl 0 rfl) ?_
      refine x_callv hG hw (va_runV (As := [.int (x1 &&& (x3 ^^^ (-1 : Int32))), .int s0]) (rest := []) ⟨hx, hb, hml, hown, hts⟩ (c_X6_later (l := l) (G := G) h) (cwV 2 hts gX6_part_X6_later rfl rfl rfl (by decide +kernel) ⟨Nat.le_of_ble_eq_true rfl, Nat.le_of_ble_eq_true rfl⟩) (x_preV hG hw xO23 rfl) rfl rfl hl.1 rfl (lv_room (Nat.le_of_ble_eq_true rfl)) dX6_part_164 ⟨Nat.le_of_ble_eq_true rfl, Nat.le_of_ble_eq_true rfl⟩) (fun A_8 L_9 H locs hw h => ?_)
      refine lv_aload_n hx hb dX6_part_167 rfl (lv_at hl 1 rfl) ?_
      refine lv_iconst (v := 0) hx hb dX6_part_168 (by decide) ?_
      refine lv_iload hx hb dX6_part_169 (lv_at hl 6 rfl) ?_
      refine x_calli hG hw (va_runS (As := [.int x5]) (rest := [.int (0 : Int32), .ref (xad G 23)]) ⟨hx, hb, hml, hown, hts⟩ (c_X6_signOf (l := l) (G := G) h) (va_cwS 1 hts gX6_part_X6_signOf rfl rfl rfl (by decide +kernel) ⟨Nat.le_of_ble_eq_true rfl, Nat.le_of_ble_eq_true rfl⟩) (x_preS hG hw) rfl rfl hl.1 rfl (lv_room (Nat.le_of_ble_eq_true rfl)) dX6_part_171 ⟨Nat.le_of_ble_eq_true rfl, Nat.le_of_ble_eq_true rfl⟩) (fun r_10 A9 L9 H locs hw h => ?_)
      rw [h.2.1, h.2.2] at hw
      have h := h.1
      refine x_callv hG hw (va_runV (As := [.int (0 : Int32), .int r_10]) (rest := []) ⟨hx, hb, hml, hown, hts⟩ (c_X6_later (l := l) (G := G) h) (cwV 2 hts gX6_part_X6_later rfl rfl rfl (by decide +kernel) ⟨Nat.le_of_ble_eq_true rfl, Nat.le_of_ble_eq_true rfl⟩) (x_preV hG hw xO23 rfl) rfl rfl hl.1 rfl (lv_room (Nat.le_of_ble_eq_true rfl)) dX6_part_174 ⟨Nat.le_of_ble_eq_true rfl, Nat.le_of_ble_eq_true rfl⟩) (fun A_11 L_12 H locs hw h => ?_)
      refine lv_aload_n hx hb dX6_part_177 rfl (lv_at hl 1 rfl) ?_
      refine lv_iload_n hx hb dX6_part_178 rfl (lv_at hl 4 rfl) ?_
      refine lv_iload hx hb dX6_part_179 (lv_at hl 8 rfl) ?_
      refine x_callv hG hw (va_runV (As := [.int x3, .int x7]) (rest := []) ⟨hx, hb, hml, hown, hts⟩ (c_X6_later (l := l) (G := G) h) (cwV 2 hts gX6_part_X6_later rfl rfl rfl (by decide +kernel) ⟨Nat.le_of_ble_eq_true rfl, Nat.le_of_ble_eq_true rfl⟩) (x_preV hG hw xO23 rfl) rfl rfl hl.1 rfl (lv_room (Nat.le_of_ble_eq_true rfl)) dX6_part_181 ⟨Nat.le_of_ble_eq_true rfl, Nat.le_of_ble_eq_true rfl⟩) (fun A_13 L_14 H locs hw h => ?_)
      refine lv_aload_n hx hb dX6_part_184 rfl (lv_at hl 1 rfl) ?_
      refine lv_bipush (v := 40) hx hb dX6_part_185 (by decide) ?_
      refine x_callv hG hw (va_runV (As := [.int (40 : Int32)]) (rest := []) ⟨hx, hb, hml, hown, hts⟩ (c_X6_put (l := l) (G := G) h) (cwV 1 hts gX6_part_X6_put rfl rfl rfl (by decide +kernel) ⟨Nat.le_of_ble_eq_true rfl, Nat.le_of_ble_eq_true rfl⟩) (x_preV hG hw xO23 rfl) rfl rfl hl.1 rfl (lv_room (Nat.le_of_ble_eq_true rfl)) dX6_part_187 ⟨Nat.le_of_ble_eq_true rfl, Nat.le_of_ble_eq_true rfl⟩) (fun A_15 L_16 H locs hw h => ?_)
      exact x_vret hx hb hr hlocks hG hw h dX6_part_190
set_option maxHeartbeats 4000000 in
set_option maxRecDepth 100000 in
theorem t_X6_part_76 (C0 : xC p s m args meth c G cX6_part none wsX6_part RX6 9) {post : xM → xL → Prop} {x1 : Int32} {x2 : Int32} {x3 : Int32} {x4 : Int32} {x5 : Int32} {x6 : Int32} {R_2 : Int32 → xM → xL → Prop} (hR_2 : ∀ (x3 : Int32) (A : xM) (L : xL) (H : Heap) (locs : List Loc) (ls : Array Slot), xW G s.heap A L H locs → lv_has ls 9 [(0, .ref (xad G 23)), (1, .int x1), (2, .int x2), (3, .int x3)] → R_2 x3 A L → W p l e rX6_part s m args below meth c H locs 0 0 (MQ below (xQv G post) args s 0 0 (xAf G)) (F0 m 2 ls [])) {R_26 : Int32 → xM → xL → Prop} (hR_26 : ∀ (x5 : Int32) (A : xM) (L : xL) (H : Heap) (locs : List Loc) (ls : Array Slot), xW G s.heap A L H locs → lv_has ls 9 [(0, .ref (xad G 23)), (1, .int x1), (2, .int x2), (3, .int x3), (4, .int x4), (5, .int x5)] → R_26 x5 A L → W p l e rX6_part s m args below meth c H locs 0 0 (MQ below (xQv G post) args s 0 0 (xAf G)) (F0 m 26 ls [])) : ∀ (n : Nat) (x7 : Int32) (A : xM) (L : xL) (H : Heap) (locs : List Loc) (ls : Array Slot), xW G s.heap A L H locs → lv_has ls 9 [(0, .ref (xad G 23)), (1, .int x1), (2, .int x2), (3, .int x3), (4, .int x4), (5, .int x5), (6, .int x6), (7, .int x7)] → v_X6_part_76 x1 x2 x3 x4 x5 x6 R_2 R_26 post n x7 A L → W p l e rX6_part s m args below meth c H locs 0 0 (MQ below (xQv G post) args s 0 0 (xAf G)) (F0 m 76 ls []) := by
  obtain ⟨hx, hb, hr, hts, hown, hml, hlocks, hG⟩ := id C0
  intro n
  induction n with
  | zero => intro x7 A L H locs ls hw hl h; exact (show False from h).elim
  | succ n ih =>
    intro x7 A L H locs ls hw hl h
    unfold v_X6_part_76 at h
    refine lv_iload hx hb dX6_part_76 (lv_at hl 7 rfl) ?_
    refine lv_sipush (v := 3000) hx hb dX6_part_78 (by decide) ?_
    refine lv_icmp_gt (tgt := 197) hx hb dX6_part_81 (by decide) (fun c_1 => ?_) (fun c_1 => ?_)
    · have h := h.1 c_1
      obtain ⟨x5_2, ex5_2⟩ : ∃ y : Int32, y = x5 + (1 : Int32) := ⟨_, rfl⟩
      have h := h x5_2 ex5_2
      refine lv_iinc (v := x5_2) (lv' := [(5, .int x5_2), (0, .ref (xad G 23)), (1, .int x1), (2, .int x2), (3, .int x3), (4, .int x4), (6, .int x6), (7, .int x7)]) hx hb dX6_part_197 hl (k := 5) rfl (by rw [ex5_2]; rfl) (by decide) rfl (fun ls hl => ?_)
      refine lv_goto (tgt := 26) hx hb dX6_part_200 (by decide) ?_
      exact hR_26 x5_2 A L _ _ _ hw (lv_sub hl [1, 2, 3, 4, 5, 0] rfl) h
    · have h := h.2 c_1
      refine lv_iload hx hb dX6_part_84 (lv_at hl 6 rfl) ?_
      refine lv_if_eq (tgt := 197) hx hb dX6_part_86 (by decide) (fun c_3 => ?_) (fun c_3 => ?_)
      · have h := h.1 c_3
        obtain ⟨x5_4, ex5_4⟩ : ∃ y : Int32, y = x5 + (1 : Int32) := ⟨_, rfl⟩
        have h := h x5_4 ex5_4
        refine lv_iinc (v := x5_4) (lv' := [(5, .int x5_4), (0, .ref (xad G 23)), (1, .int x1), (2, .int x2), (3, .int x3), (4, .int x4), (6, .int x6), (7, .int x7)]) hx hb dX6_part_197 hl (k := 5) rfl (by rw [ex5_4]; rfl) (by decide) rfl (fun ls hl => ?_)
        refine lv_goto (tgt := 26) hx hb dX6_part_200 (by decide) ?_
        exact hR_26 x5_4 A L _ _ _ hw (lv_sub hl [1, 2, 3, 4, 5, 0] rfl) h
      · have h := h.2 c_3
        refine lv_aload_n hx hb dX6_part_89 rfl (lv_at hl 0 rfl) ?_
        refine x_get (C := RX6) (T := TX6) (N := 20) hx hb hts inX6_part_X6 hown hG hw xO23 rfl 10 (by decide) (hts (.fieldLink RX6 30 "SixNumbersModel" "ways" "[J") (List.mem_of_getElem? (i := 1) rfl)) (fun _ h9 => h9) (v := .ref (xad G 28)) rfl dX6_part_90 ?_
        refine lv_sipush (v := 3001) hx hb dX6_part_93 (by decide) ?_
        refine lv_iload_n hx hb dX6_part_96 rfl (lv_at hl 3 rfl) ?_
        refine lv_imul hx hb dX6_part_97 ?_
        refine lv_iload hx hb dX6_part_98 (lv_at hl 7 rfl) ?_
        refine lv_iadd hx hb dX6_part_100 ?_
        have i_5 := h.1
        have h := h.2
        refine x_lald hx hb hG hw xb28 i_5 dX6_part_101 ?_
        refine lv_lconst (v := 0) hx hb dX6_part_102 (by decide) ?_
        refine W.lcmp hx hb dX6_part_103 ?_
        refine lv_if_le (tgt := 119) hx hb dX6_part_104 (by decide) (fun c_6 => ?_) (fun c_6 => ?_)
        · have h := h.1 c_6
          refine lv_iconst (v := (-1)) hx hb dX6_part_119 (by decide) ?_
          exact t_X6_part_120 C0 hR_2 hR_26 ih hw (lv_sub hl [0, 1, 2, 3, 4, 5, 6, 7] rfl) h
        · have h := h.2 c_6
          refine lv_aload_n hx hb dX6_part_107 rfl (lv_at hl 0 rfl) ?_
          refine lv_iload hx hb dX6_part_108 (lv_at hl 5 rfl) ?_
          refine lv_iload hx hb dX6_part_110 (lv_at hl 7 rfl) ?_
          refine lv_iload_n hx hb dX6_part_112 rfl (lv_at hl 2 rfl) ?_
          refine x_calli hG hw (va_runV (As := [.int x5, .int x7, .int x2]) (rest := []) ⟨hx, hb, hml, hown, hts⟩ (c_X6_other (l := l) (G := G) h) (cwV 3 hts gX6_part_X6_other rfl rfl rfl (by decide +kernel) ⟨Nat.le_of_ble_eq_true rfl, Nat.le_of_ble_eq_true rfl⟩) (x_preV hG hw xO23 rfl) rfl rfl hl.1 rfl (lv_room (Nat.le_of_ble_eq_true rfl)) dX6_part_113 ⟨Nat.le_of_ble_eq_true rfl, Nat.le_of_ble_eq_true rfl⟩) (fun r_7 A9 L9 H locs hw h => ?_)
          rw [h.2.1, h.2.2] at hw
          have h := h.1
          refine lv_goto (tgt := 120) hx hb dX6_part_116 (by decide) ?_
          exact t_X6_part_120 C0 hR_2 hR_26 ih hw (lv_sub hl [0, 1, 2, 3, 4, 5, 6, 7] rfl) h
set_option maxHeartbeats 4000000 in
set_option maxRecDepth 100000 in
theorem t_X6_part_71 (C0 : xC p s m args meth c G cX6_part none wsX6_part RX6 9) {post : xM → xL → Prop} {x1 : Int32} {x2 : Int32} {x3 : Int32} {x4 : Int32} {x5 : Int32} {s0 : Int32} {A : xM} {L : xL} {R_2 : Int32 → xM → xL → Prop} (hR_2 : ∀ (x3 : Int32) (A : xM) (L : xL) (H : Heap) (locs : List Loc) (ls : Array Slot), xW G s.heap A L H locs → lv_has ls 9 [(0, .ref (xad G 23)), (1, .int x1), (2, .int x2), (3, .int x3)] → R_2 x3 A L → W p l e rX6_part s m args below meth c H locs 0 0 (MQ below (xQv G post) args s 0 0 (xAf G)) (F0 m 2 ls [])) {R_26 : Int32 → xM → xL → Prop} (hR_26 : ∀ (x5 : Int32) (A : xM) (L : xL) (H : Heap) (locs : List Loc) (ls : Array Slot), xW G s.heap A L H locs → lv_has ls 9 [(0, .ref (xad G 23)), (1, .int x1), (2, .int x2), (3, .int x3), (4, .int x4), (5, .int x5)] → R_26 x5 A L → W p l e rX6_part s m args below meth c H locs 0 0 (MQ below (xQv G post) args s 0 0 (xAf G)) (F0 m 26 ls [])) {H : Heap} {locs : List Loc} {ls : Array Slot} (hw : xW G s.heap A L H locs) (hl : lv_has ls 9 [(0, .ref (xad G 23)), (1, .int x1), (2, .int x2), (3, .int x3), (4, .int x4), (5, .int x5)]) (h : v_X6_part_71 x1 x2 x3 x4 x5 s0 A L R_2 R_26 post) : W p l e rX6_part s m args below meth c H locs 0 0 (MQ below (xQv G post) args s 0 0 (xAf G)) (F0 m 71 ls [.int s0]) := by
  obtain ⟨hx, hb, hr, hts, hown, hml, hlocks, hG⟩ := id C0
  unfold v_X6_part_71 at h
  refine lv_istore (lv' := [(6, .int s0), (0, .ref (xad G 23)), (1, .int x1), (2, .int x2), (3, .int x3), (4, .int x4), (5, .int x5)]) hx hb dX6_part_71 hl (by decide) rfl (fun ls hl => ?_)
  refine lv_iconst (v := 1) hx hb dX6_part_73 (by decide) ?_
  refine lv_istore (lv' := [(7, .int (1 : Int32)), (6, .int s0), (0, .ref (xad G 23)), (1, .int x1), (2, .int x2), (3, .int x3), (4, .int x4), (5, .int x5)]) hx hb dX6_part_74 hl (by decide) rfl (fun ls hl => ?_)
  obtain ⟨n9, h⟩ := h
  exact t_X6_part_76 C0 hR_2 hR_26 n9 (1 : Int32) A L _ _ _ hw (lv_sub hl [2, 3, 4, 5, 6, 7, 1, 0] rfl) h
set_option maxHeartbeats 4000000 in
set_option maxRecDepth 100000 in
theorem t_X6_part_70 (C0 : xC p s m args meth c G cX6_part none wsX6_part RX6 9) {post : xM → xL → Prop} {x1 : Int32} {x2 : Int32} {x3 : Int32} {x4 : Int32} {x5 : Int32} {A : xM} {L : xL} {R_2 : Int32 → xM → xL → Prop} (hR_2 : ∀ (x3 : Int32) (A : xM) (L : xL) (H : Heap) (locs : List Loc) (ls : Array Slot), xW G s.heap A L H locs → lv_has ls 9 [(0, .ref (xad G 23)), (1, .int x1), (2, .int x2), (3, .int x3)] → R_2 x3 A L → W p l e rX6_part s m args below meth c H locs 0 0 (MQ below (xQv G post) args s 0 0 (xAf G)) (F0 m 2 ls [])) {R_26 : Int32 → xM → xL → Prop} (hR_26 : ∀ (x5 : Int32) (A : xM) (L : xL) (H : Heap) (locs : List Loc) (ls : Array Slot), xW G s.heap A L H locs → lv_has ls 9 [(0, .ref (xad G 23)), (1, .int x1), (2, .int x2), (3, .int x3), (4, .int x4), (5, .int x5)] → R_26 x5 A L → W p l e rX6_part s m args below meth c H locs 0 0 (MQ below (xQv G post) args s 0 0 (xAf G)) (F0 m 26 ls [])) {H : Heap} {locs : List Loc} {ls : Array Slot} (hw : xW G s.heap A L H locs) (hl : lv_has ls 9 [(0, .ref (xad G 23)), (1, .int x1), (2, .int x2), (3, .int x3), (4, .int x4), (5, .int x5)]) (h : v_X6_part_70 x1 x2 x3 x4 x5 A L R_2 R_26 post) : W p l e rX6_part s m args below meth c H locs 0 0 (MQ below (xQv G post) args s 0 0 (xAf G)) (F0 m 70 ls []) := by
  obtain ⟨hx, hb, hr, hts, hown, hml, hlocks, hG⟩ := id C0
  unfold v_X6_part_70 at h
  refine lv_iconst (v := 0) hx hb dX6_part_70 (by decide) ?_
  exact t_X6_part_71 C0 hR_2 hR_26 hw (lv_sub hl [0, 1, 2, 3, 4, 5] rfl) h
set_option maxHeartbeats 4000000 in
set_option maxRecDepth 100000 in
theorem t_X6_part_26 (C0 : xC p s m args meth c G cX6_part none wsX6_part RX6 9) {post : xM → xL → Prop} {x1 : Int32} {x2 : Int32} {x3 : Int32} {x4 : Int32} {R_2 : Int32 → xM → xL → Prop} (hR_2 : ∀ (x3 : Int32) (A : xM) (L : xL) (H : Heap) (locs : List Loc) (ls : Array Slot), xW G s.heap A L H locs → lv_has ls 9 [(0, .ref (xad G 23)), (1, .int x1), (2, .int x2), (3, .int x3)] → R_2 x3 A L → W p l e rX6_part s m args below meth c H locs 0 0 (MQ below (xQv G post) args s 0 0 (xAf G)) (F0 m 2 ls [])) : ∀ (n : Nat) (x5 : Int32) (A : xM) (L : xL) (H : Heap) (locs : List Loc) (ls : Array Slot), xW G s.heap A L H locs → lv_has ls 9 [(0, .ref (xad G 23)), (1, .int x1), (2, .int x2), (3, .int x3), (4, .int x4), (5, .int x5)] → v_X6_part_26 x1 x2 x3 x4 R_2 post n x5 A L → W p l e rX6_part s m args below meth c H locs 0 0 (MQ below (xQv G post) args s 0 0 (xAf G)) (F0 m 26 ls []) := by
  obtain ⟨hx, hb, hr, hts, hown, hml, hlocks, hG⟩ := id C0
  intro n
  induction n with
  | zero => intro x5 A L H locs ls hw hl h; exact (show False from h).elim
  | succ n ih =>
    intro x5 A L H locs ls hw hl h
    unfold v_X6_part_26 at h
    refine lv_iload hx hb dX6_part_26 (lv_at hl 5 rfl) ?_
    refine lv_iconst (v := 4) hx hb dX6_part_28 (by decide) ?_
    refine lv_icmp_ge (tgt := 203) hx hb dX6_part_29 (by decide) (fun c_1 => ?_) (fun c_1 => ?_)
    · have h := h.1 c_1
      obtain ⟨x3_2, ex3_2⟩ : ∃ y : Int32, y = x3 + (1 : Int32) := ⟨_, rfl⟩
      have h := h x3_2 ex3_2
      refine lv_iinc (v := x3_2) (lv' := [(3, .int x3_2), (0, .ref (xad G 23)), (1, .int x1), (2, .int x2), (4, .int x4), (5, .int x5)]) hx hb dX6_part_203 hl (k := 3) rfl (by rw [ex3_2]; rfl) (by decide) rfl (fun ls hl => ?_)
      refine lv_goto (tgt := 2) hx hb dX6_part_206 (by decide) ?_
      exact hR_2 x3_2 A L _ _ _ hw (lv_sub hl [1, 2, 3, 0] rfl) h
    · have h := h.2 c_1
      refine lv_iload_n hx hb dX6_part_32 rfl (lv_at hl 3 rfl) ?_
      refine lv_iload_n hx hb dX6_part_33 rfl (lv_at hl 1 rfl) ?_
      refine lv_iconst (v := (-1)) hx hb dX6_part_34 (by decide) ?_
      refine lv_ixor hx hb dX6_part_35 ?_
      refine lv_iand hx hb dX6_part_36 ?_
      refine lv_if_ne (tgt := 203) hx hb dX6_part_37 (by decide) (fun c_3 => ?_) (fun c_3 => ?_)
      · have h := h.1 c_3
        obtain ⟨x3_4, ex3_4⟩ : ∃ y : Int32, y = x3 + (1 : Int32) := ⟨_, rfl⟩
        have h := h x3_4 ex3_4
        refine lv_iinc (v := x3_4) (lv' := [(3, .int x3_4), (0, .ref (xad G 23)), (1, .int x1), (2, .int x2), (4, .int x4), (5, .int x5)]) hx hb dX6_part_203 hl (k := 3) rfl (by rw [ex3_4]; rfl) (by decide) rfl (fun ls hl => ?_)
        refine lv_goto (tgt := 2) hx hb dX6_part_206 (by decide) ?_
        exact hR_2 x3_4 A L _ _ _ hw (lv_sub hl [1, 2, 3, 0] rfl) h
      · have h := h.2 c_3
        refine lv_aload_n hx hb dX6_part_40 rfl (lv_at hl 0 rfl) ?_
        refine lv_iload hx hb dX6_part_41 (lv_at hl 5 rfl) ?_
        refine x_calli hG hw (va_runV (As := [.int x5]) (rest := []) ⟨hx, hb, hml, hown, hts⟩ (c_X6_may (l := l) (G := G) h) (cwV 1 hts gX6_part_X6_may rfl rfl rfl (by decide +kernel) ⟨Nat.le_of_ble_eq_true rfl, Nat.le_of_ble_eq_true rfl⟩) (x_preV hG hw xO23 rfl) rfl rfl hl.1 rfl (lv_room (Nat.le_of_ble_eq_true rfl)) dX6_part_43 ⟨Nat.le_of_ble_eq_true rfl, Nat.le_of_ble_eq_true rfl⟩) (fun r_5 A9 L9 H locs hw h => ?_)
        rw [h.2.1, h.2.2] at hw
        have h := h.1
        refine lv_if_eq (tgt := 70) hx hb dX6_part_46 (by decide) (fun c_6 => ?_) (fun c_6 => ?_)
        · have h := h.1 c_6
          exact t_X6_part_70 C0 hR_2 ih hw (lv_sub hl [0, 1, 2, 3, 4, 5] rfl) h
        · have h := h.2 c_6
          refine lv_iload hx hb dX6_part_49 (lv_at hl 4 rfl) ?_
          refine lv_if_ne (tgt := 66) hx hb dX6_part_51 (by decide) (fun c_7 => ?_) (fun c_7 => ?_)
          · have h := h.1 c_7
            refine lv_iconst (v := 1) hx hb dX6_part_66 (by decide) ?_
            refine lv_goto (tgt := 71) hx hb dX6_part_67 (by decide) ?_
            exact t_X6_part_71 C0 hR_2 ih hw (lv_sub hl [0, 1, 2, 3, 4, 5] rfl) h
          · have h := h.2 c_7
            refine lv_iload hx hb dX6_part_54 (lv_at hl 5 rfl) ?_
            refine lv_iconst (v := 1) hx hb dX6_part_56 (by decide) ?_
            refine lv_icmp_eq (tgt := 66) hx hb dX6_part_57 (by decide) (fun c_8 => ?_) (fun c_8 => ?_)
            · have h := h.1 c_8
              refine lv_iconst (v := 1) hx hb dX6_part_66 (by decide) ?_
              refine lv_goto (tgt := 71) hx hb dX6_part_67 (by decide) ?_
              exact t_X6_part_71 C0 hR_2 ih hw (lv_sub hl [0, 1, 2, 3, 4, 5] rfl) h
            · have h := h.2 c_8
              refine lv_iload hx hb dX6_part_60 (lv_at hl 5 rfl) ?_
              refine lv_iconst (v := 3) hx hb dX6_part_62 (by decide) ?_
              refine lv_icmp_ne (tgt := 70) hx hb dX6_part_63 (by decide) (fun c_9 => ?_) (fun c_9 => ?_)
              · have h := h.1 c_9
                exact t_X6_part_70 C0 hR_2 ih hw (lv_sub hl [0, 1, 2, 3, 4, 5] rfl) h
              · have h := h.2 c_9
                refine lv_iconst (v := 1) hx hb dX6_part_66 (by decide) ?_
                refine lv_goto (tgt := 71) hx hb dX6_part_67 (by decide) ?_
                exact t_X6_part_71 C0 hR_2 ih hw (lv_sub hl [0, 1, 2, 3, 4, 5] rfl) h
set_option maxHeartbeats 4000000 in
set_option maxRecDepth 100000 in
theorem t_X6_part_21 (C0 : xC p s m args meth c G cX6_part none wsX6_part RX6 9) {post : xM → xL → Prop} {x1 : Int32} {x2 : Int32} {x3 : Int32} {s0 : Int32} {A : xM} {L : xL} {R_2 : Int32 → xM → xL → Prop} (hR_2 : ∀ (x3 : Int32) (A : xM) (L : xL) (H : Heap) (locs : List Loc) (ls : Array Slot), xW G s.heap A L H locs → lv_has ls 9 [(0, .ref (xad G 23)), (1, .int x1), (2, .int x2), (3, .int x3)] → R_2 x3 A L → W p l e rX6_part s m args below meth c H locs 0 0 (MQ below (xQv G post) args s 0 0 (xAf G)) (F0 m 2 ls [])) {H : Heap} {locs : List Loc} {ls : Array Slot} (hw : xW G s.heap A L H locs) (hl : lv_has ls 9 [(0, .ref (xad G 23)), (1, .int x1), (2, .int x2), (3, .int x3)]) (h : v_X6_part_21 x1 x2 x3 s0 A L R_2 post) : W p l e rX6_part s m args below meth c H locs 0 0 (MQ below (xQv G post) args s 0 0 (xAf G)) (F0 m 21 ls [.int s0]) := by
  obtain ⟨hx, hb, hr, hts, hown, hml, hlocks, hG⟩ := id C0
  unfold v_X6_part_21 at h
  refine lv_istore (lv' := [(4, .int s0), (0, .ref (xad G 23)), (1, .int x1), (2, .int x2), (3, .int x3)]) hx hb dX6_part_21 hl (by decide) rfl (fun ls hl => ?_)
  refine lv_iconst (v := 0) hx hb dX6_part_23 (by decide) ?_
  refine lv_istore (lv' := [(5, .int (0 : Int32)), (4, .int s0), (0, .ref (xad G 23)), (1, .int x1), (2, .int x2), (3, .int x3)]) hx hb dX6_part_24 hl (by decide) rfl (fun ls hl => ?_)
  obtain ⟨n9, h⟩ := h
  exact t_X6_part_26 C0 hR_2 n9 (0 : Int32) A L _ _ _ hw (lv_sub hl [2, 3, 4, 5, 1, 0] rfl) h
set_option maxHeartbeats 4000000 in
set_option maxRecDepth 100000 in
theorem t_X6_part_2 (C0 : xC p s m args meth c G cX6_part none wsX6_part RX6 9) {post : xM → xL → Prop} {x1 : Int32} {x2 : Int32} : ∀ (n : Nat) (x3 : Int32) (A : xM) (L : xL) (H : Heap) (locs : List Loc) (ls : Array Slot), xW G s.heap A L H locs → lv_has ls 9 [(0, .ref (xad G 23)), (1, .int x1), (2, .int x2), (3, .int x3)] → v_X6_part_2 x1 x2 post n x3 A L → W p l e rX6_part s m args below meth c H locs 0 0 (MQ below (xQv G post) args s 0 0 (xAf G)) (F0 m 2 ls []) := by
  obtain ⟨hx, hb, hr, hts, hown, hml, hlocks, hG⟩ := id C0
  intro n
  induction n with
  | zero => intro x3 A L H locs ls hw hl h; exact (show False from h).elim
  | succ n ih =>
    intro x3 A L H locs ls hw hl h
    unfold v_X6_part_2 at h
    refine lv_iload_n hx hb dX6_part_2 rfl (lv_at hl 3 rfl) ?_
    refine lv_iload_n hx hb dX6_part_3 rfl (lv_at hl 1 rfl) ?_
    refine lv_icmp_ge (tgt := 209) hx hb dX6_part_4 (by decide) (fun c_1 => ?_) (fun c_1 => ?_)
    · have h := h.1 c_1
      exact x_vret hx hb hr hlocks hG hw h dX6_part_209
    · have h := h.2 c_1
      refine lv_iload_n hx hb dX6_part_7 rfl (lv_at hl 3 rfl) ?_
      refine lv_iload_n hx hb dX6_part_8 rfl (lv_at hl 1 rfl) ?_
      refine lv_iand hx hb dX6_part_9 ?_
      refine lv_iload_n hx hb dX6_part_10 rfl (lv_at hl 1 rfl) ?_
      refine lv_ineg hx hb dX6_part_11 ?_
      refine lv_iand hx hb dX6_part_12 ?_
      refine lv_if_eq (tgt := 20) hx hb dX6_part_13 (by decide) (fun c_2 => ?_) (fun c_2 => ?_)
      · have h := h.1 c_2
        refine lv_iconst (v := 0) hx hb dX6_part_20 (by decide) ?_
        exact t_X6_part_21 C0 ih hw (lv_sub hl [0, 1, 2, 3] rfl) h
      · have h := h.2 c_2
        refine lv_iconst (v := 1) hx hb dX6_part_16 (by decide) ?_
        refine lv_goto (tgt := 21) hx hb dX6_part_17 (by decide) ?_
        exact t_X6_part_21 C0 ih hw (lv_sub hl [0, 1, 2, 3] rfl) h
set_option maxHeartbeats 4000000 in
set_option maxRecDepth 100000 in
theorem t_X6_part_0 (C0 : xC p s m args meth c G cX6_part none wsX6_part RX6 9) {post : xM → xL → Prop} {x1 : Int32} {x2 : Int32} {A : xM} {L : xL} {H : Heap} {locs : List Loc} {ls : Array Slot} (hw : xW G s.heap A L H locs) (hl : lv_has ls 9 [(0, .ref (xad G 23)), (1, .int x1), (2, .int x2)]) (h : v_X6_part x1 x2 A L post) : W p l e rX6_part s m args below meth c H locs 0 0 (MQ below (xQv G post) args s 0 0 (xAf G)) (F0 m 0 ls []) := by
  obtain ⟨hx, hb, hr, hts, hown, hml, hlocks, hG⟩ := id C0
  unfold v_X6_part at h
  refine lv_iconst (v := 1) hx hb dX6_part_0 (by decide) ?_
  refine lv_istore_n (lv' := [(3, .int (1 : Int32)), (0, .ref (xad G 23)), (1, .int x1), (2, .int x2)]) hx hb dX6_part_1 rfl hl (by decide) rfl (fun ls hl => ?_)
  obtain ⟨n9, h⟩ := h
  exact t_X6_part_2 C0 n9 (1 : Int32) A L _ _ _ hw (lv_sub hl [1, 2, 3, 0] rfl) h
theorem c_X6_part {l : Launch} {G : xGt} {x1 : Int32} {x2 : Int32} {A : xM} {L : xL} {post : xM → xL → Prop} (h : v_X6_part x1 x2 A L post) : Met l yX6_part wsX6_part rX6_part (va_Pc [.ref (xad G 23), .int x1, .int x2] (xPre G A L)) (xQv G post) 0 0 (xAf G) :=
  x_met RX6 rfl (by decide) rfl (Nat.le_of_ble_eq_true rfl) (fun p e s m below meth c ls C0 hw hl => t_X6_part_0 C0 hw hl h)
end MECH
abbrev rX6_printed : Room := { frames := 2, cells := 0, slots := 0, locals := 51 }
theorem inX6_printed_X6 : ∀ w ∈ wsX60, w ∈ wsX6_printed := fun w h => List.mem_cons_of_mem _ (List.mem_append_right _ h)
def v_X6_printed_16 (post : Int32 → xM → xL → Prop) : Nat → xM → xL → Prop
  | 0, _, _ => False
  | n + 1, A, L => ((A 23 16) ≤ 0 → (post (A 23 7) A L)) ∧ (¬ (A 23 16) ≤ 0 → (∀ A_2 : xM, A_2 = xu A 23 16 ((A 23 16) - (1 : Int32)) → (vp_in (A_2 23 16) 40 ∧ (∀ x3_4 : Int32, x3_4 = (A_2 31 (A_2 23 16).toNatClampNeg) → (∀ x4_5 : Int32, x4_5 = (A_2 32 (A_2 23 16).toNatClampNeg) → ((¬ x3_4 = 0 → (v_X6_bits x3_4 (fun (r_7 : Int32) => ((¬ r_7 = (1 : Int32) → (v_X6_part x3_4 x4_5 A_2 L (fun (A_9 : xM) (L_10 : xL) => (v_X6_printed_16 post n A_9 L_10)))) ∧ (r_7 = (1 : Int32) → (v_X6_putNumber x4_5 A_2 L (fun (A_11 : xM) (L_12 : xL) => (v_X6_printed_16 post n A_11 L_12)))))))) ∧ (x3_4 = 0 → (v_X6_put x4_5 A_2 L (fun (A_13 : xM) (L_14 : xL) => (v_X6_printed_16 post n A_13 L_14))))))))))
def v_X6_printed (x1 : Int32) (x2 : Int32) (A : xM) (L : xL) (post : Int32 → xM → xL → Prop) : Prop := ∀ A_1 : xM, A_1 = xu A 23 7 (0 : Int32) → (∀ A_2 : xM, A_2 = xu A_1 23 16 (0 : Int32) → (v_X6_later x1 x2 A_2 L (fun (A_3 : xM) (L_4 : xL) => (∃ k9 : Nat, v_X6_printed_16 post k9 A_3 L_4))))
section MECH
variable {p : Program} {l : Launch} {e : Env} {s : State} {m : MethodId} {args : Array Value} {below : List Frame} {meth : Method} {c : Code} {G : xGt}
set_option maxHeartbeats 4000000 in
set_option maxRecDepth 100000 in
theorem t_X6_printed_16 (C0 : xC p s m args meth c G cX6_printed (some .int) wsX6_printed RX6 5) {post : Int32 → xM → xL → Prop} : ∀ (n : Nat) (A : xM) (L : xL) (H : Heap) (locs : List Loc) (ls : Array Slot), xW G s.heap A L H locs → lv_has ls 5 [(0, .ref (xad G 23))] → v_X6_printed_16 post n A L → W p l e rX6_printed s m args below meth c H locs 0 0 (MQ below (xQi G post) args s 0 0 (xAf G)) (F0 m 16 ls []) := by
  obtain ⟨hx, hb, hr, hts, hown, hml, hlocks, hG⟩ := id C0
  intro n
  induction n with
  | zero => intro A L H locs ls hw hl h; exact (show False from h).elim
  | succ n ih =>
    intro A L H locs ls hw hl h
    unfold v_X6_printed_16 at h
    refine lv_aload_n hx hb dX6_printed_16 rfl (lv_at hl 0 rfl) ?_
    refine x_get (C := RX6) (T := TX6) (N := 20) hx hb hts inX6_printed_X6 hown hG hw xO23 rfl 16 (by decide) (hts (.fieldLink RX6 137 "SixNumbersModel" "todos" "I") (List.mem_of_getElem? (i := 2) rfl)) (fun _ h9 => h9) (v := .int (A 23 16)) rfl dX6_printed_17 ?_
    refine lv_if_le (tgt := 94) hx hb dX6_printed_20 (by decide) (fun c_1 => ?_) (fun c_1 => ?_)
    · have h := h.1 c_1
      refine lv_aload_n hx hb dX6_printed_94 rfl (lv_at hl 0 rfl) ?_
      refine x_get (C := RX6) (T := TX6) (N := 20) hx hb hts inX6_printed_X6 hown hG hw xO23 rfl 7 (by decide) (hts (.fieldLink RX6 81 "SixNumbersModel" "outSize" "I") (List.mem_of_getElem? (i := 1) rfl)) (fun _ h9 => h9) (v := .int (A 23 7)) rfl dX6_printed_95 ?_
      exact x_iret hx hb hr hlocks hG hw h dX6_printed_98
    · have h := h.2 c_1
      refine lv_aload_n hx hb dX6_printed_23 rfl (lv_at hl 0 rfl) ?_
      refine lv_dup hx hb dX6_printed_24 rfl ?_
      refine x_get (C := RX6) (T := TX6) (N := 20) hx hb hts inX6_printed_X6 hown hG hw xO23 rfl 16 (by decide) (hts (.fieldLink RX6 137 "SixNumbersModel" "todos" "I") (List.mem_of_getElem? (i := 2) rfl)) (fun _ h9 => h9) (v := .int (A 23 16)) rfl dX6_printed_25 ?_
      refine lv_iconst (v := 1) hx hb dX6_printed_28 (by decide) ?_
      refine lv_isub hx hb dX6_printed_29 ?_
      refine x_put (C := RX6) (T := TX6) (N := 20) hx hb hts inX6_printed_X6 tyX6 tyX6_ok nmX6 hown hG hw xO23 rfl 16 (by decide) (hts (.fieldLink RX6 137 "SixNumbersModel" "todos" "I") (List.mem_of_getElem? (i := 2) rfl)) (fun _ h9 => h9) rfl (ty := .int) (by decide +kernel) rfl rfl (Nat.le_of_ble_eq_true rfl) rfl dX6_printed_30 (fun A_2 H locs eA_2 hw => ?_)
      have h := h A_2 eA_2
      refine lv_aload_n hx hb dX6_printed_33 rfl (lv_at hl 0 rfl) ?_
      refine x_get (C := RX6) (T := TX6) (N := 20) hx hb hts inX6_printed_X6 hown hG hw xO23 rfl 14 (by decide) (hts (.fieldLink RX6 40 "SixNumbersModel" "todoSet" "[I") (List.mem_of_getElem? (i := 3) rfl)) (fun _ h9 => h9) (v := .ref (xad G 31)) rfl dX6_printed_34 ?_
      refine lv_aload_n hx hb dX6_printed_37 rfl (lv_at hl 0 rfl) ?_
      refine x_get (C := RX6) (T := TX6) (N := 20) hx hb hts inX6_printed_X6 hown hG hw xO23 rfl 16 (by decide) (hts (.fieldLink RX6 137 "SixNumbersModel" "todos" "I") (List.mem_of_getElem? (i := 2) rfl)) (fun _ h9 => h9) (v := .int (A_2 23 16)) rfl dX6_printed_38 ?_
      have i_3 := h.1
      have h := h.2
      refine x_iald hx hb hG hw xb31 i_3 dX6_printed_41 ?_
      refine lv_topi (fun x3_4 ex3_4 => ?_)
      have h := h x3_4 ex3_4
      refine lv_istore_n (lv' := [(3, .int x3_4), (0, .ref (xad G 23))]) hx hb dX6_printed_42 rfl hl (by decide) rfl (fun ls hl => ?_)
      refine lv_aload_n hx hb dX6_printed_43 rfl (lv_at hl 1 rfl) ?_
      refine x_get (C := RX6) (T := TX6) (N := 20) hx hb hts inX6_printed_X6 hown hG hw xO23 rfl 15 (by decide) (hts (.fieldLink RX6 43 "SixNumbersModel" "todoValue" "[I") (List.mem_of_getElem? (i := 4) rfl)) (fun _ h9 => h9) (v := .ref (xad G 32)) rfl dX6_printed_44 ?_
      refine lv_aload_n hx hb dX6_printed_47 rfl (lv_at hl 1 rfl) ?_
      refine x_get (C := RX6) (T := TX6) (N := 20) hx hb hts inX6_printed_X6 hown hG hw xO23 rfl 16 (by decide) (hts (.fieldLink RX6 137 "SixNumbersModel" "todos" "I") (List.mem_of_getElem? (i := 2) rfl)) (fun _ h9 => h9) (v := .int (A_2 23 16)) rfl dX6_printed_48 ?_
      refine x_iald hx hb hG hw xb32 i_3 dX6_printed_51 ?_
      refine lv_topi (fun x4_5 ex4_5 => ?_)
      have h := h x4_5 ex4_5
      refine lv_istore (lv' := [(4, .int x4_5), (3, .int x3_4), (0, .ref (xad G 23))]) hx hb dX6_printed_52 hl (by decide) rfl (fun ls hl => ?_)
      refine lv_iload_n hx hb dX6_printed_54 rfl (lv_at hl 1 rfl) ?_
      refine lv_if_ne (tgt := 67) hx hb dX6_printed_55 (by decide) (fun c_6 => ?_) (fun c_6 => ?_)
      · have h := h.1 c_6
        refine lv_iload_n hx hb dX6_printed_67 rfl (lv_at hl 1 rfl) ?_
        refine x_calli hG hw (va_runS (As := [.int x3_4]) (rest := []) ⟨hx, hb, hml, hown, hts⟩ (c_X6_bits (l := l) (G := G) h) (va_cwS 1 hts gX6_printed_X6_bits rfl rfl rfl (by decide +kernel) ⟨Nat.le_of_ble_eq_true rfl, Nat.le_of_ble_eq_true rfl⟩) (x_preS hG hw) rfl rfl hl.1 rfl (lv_room (Nat.le_of_ble_eq_true rfl)) dX6_printed_68 ⟨Nat.le_of_ble_eq_true rfl, Nat.le_of_ble_eq_true rfl⟩) (fun r_7 A9 L9 H locs hw h => ?_)
        rw [h.2.1, h.2.2] at hw
        have h := h.1
        refine lv_iconst (v := 1) hx hb dX6_printed_71 (by decide) ?_
        refine lv_icmp_ne (tgt := 84) hx hb dX6_printed_72 (by decide) (fun c_8 => ?_) (fun c_8 => ?_)
        · have h := h.1 c_8
          refine lv_aload_n hx hb dX6_printed_84 rfl (lv_at hl 2 rfl) ?_
          refine lv_iload_n hx hb dX6_printed_85 rfl (lv_at hl 1 rfl) ?_
          refine lv_iload hx hb dX6_printed_86 (lv_at hl 0 rfl) ?_
          refine x_callv hG hw (va_runV (As := [.int x3_4, .int x4_5]) (rest := []) ⟨hx, hb, hml, hown, hts⟩ (c_X6_part (l := l) (G := G) h) (cwV 2 hts gX6_printed_X6_part rfl rfl rfl (by decide +kernel) ⟨Nat.le_of_ble_eq_true rfl, Nat.le_of_ble_eq_true rfl⟩) (x_preV hG hw xO23 rfl) rfl rfl hl.1 rfl (lv_room (Nat.le_of_ble_eq_true rfl)) dX6_printed_88 ⟨Nat.le_of_ble_eq_true rfl, Nat.le_of_ble_eq_true rfl⟩) (fun A_9 L_10 H locs hw h => ?_)
          refine lv_goto (tgt := 16) hx hb dX6_printed_91 (by decide) ?_
          exact ih A_9 L_10 _ _ _ hw (lv_sub hl [2] rfl) h
        · have h := h.2 c_8
          refine lv_aload_n hx hb dX6_printed_75 rfl (lv_at hl 2 rfl) ?_
          refine lv_iload hx hb dX6_printed_76 (lv_at hl 0 rfl) ?_
          refine x_callv hG hw (va_runV (As := [.int x4_5]) (rest := []) ⟨hx, hb, hml, hown, hts⟩ (c_X6_putNumber (l := l) (G := G) h) (cwV 1 hts gX6_printed_X6_putNumber rfl rfl rfl (by decide +kernel) ⟨Nat.le_of_ble_eq_true rfl, Nat.le_of_ble_eq_true rfl⟩) (x_preV hG hw xO23 rfl) rfl rfl hl.1 rfl (lv_room (Nat.le_of_ble_eq_true rfl)) dX6_printed_78 ⟨Nat.le_of_ble_eq_true rfl, Nat.le_of_ble_eq_true rfl⟩) (fun A_11 L_12 H locs hw h => ?_)
          refine lv_goto (tgt := 91) hx hb dX6_printed_81 (by decide) ?_
          refine lv_goto (tgt := 16) hx hb dX6_printed_91 (by decide) ?_
          exact ih A_11 L_12 _ _ _ hw (lv_sub hl [2] rfl) h
      · have h := h.2 c_6
        refine lv_aload_n hx hb dX6_printed_58 rfl (lv_at hl 2 rfl) ?_
        refine lv_iload hx hb dX6_printed_59 (lv_at hl 0 rfl) ?_
        refine x_callv hG hw (va_runV (As := [.int x4_5]) (rest := []) ⟨hx, hb, hml, hown, hts⟩ (c_X6_put (l := l) (G := G) h) (cwV 1 hts gX6_printed_X6_put rfl rfl rfl (by decide +kernel) ⟨Nat.le_of_ble_eq_true rfl, Nat.le_of_ble_eq_true rfl⟩) (x_preV hG hw xO23 rfl) rfl rfl hl.1 rfl (lv_room (Nat.le_of_ble_eq_true rfl)) dX6_printed_61 ⟨Nat.le_of_ble_eq_true rfl, Nat.le_of_ble_eq_true rfl⟩) (fun A_13 L_14 H locs hw h => ?_)
        refine lv_goto (tgt := 91) hx hb dX6_printed_64 (by decide) ?_
        refine lv_goto (tgt := 16) hx hb dX6_printed_91 (by decide) ?_
        exact ih A_13 L_14 _ _ _ hw (lv_sub hl [2] rfl) h
set_option maxHeartbeats 4000000 in
set_option maxRecDepth 100000 in
theorem t_X6_printed_0 (C0 : xC p s m args meth c G cX6_printed (some .int) wsX6_printed RX6 5) {post : Int32 → xM → xL → Prop} {x1 : Int32} {x2 : Int32} {A : xM} {L : xL} {H : Heap} {locs : List Loc} {ls : Array Slot} (hw : xW G s.heap A L H locs) (hl : lv_has ls 5 [(0, .ref (xad G 23)), (1, .int x1), (2, .int x2)]) (h : v_X6_printed x1 x2 A L post) : W p l e rX6_printed s m args below meth c H locs 0 0 (MQ below (xQi G post) args s 0 0 (xAf G)) (F0 m 0 ls []) := by
  obtain ⟨hx, hb, hr, hts, hown, hml, hlocks, hG⟩ := id C0
  unfold v_X6_printed at h
  refine lv_aload_n hx hb dX6_printed_0 rfl (lv_at hl 0 rfl) ?_
  refine lv_iconst (v := 0) hx hb dX6_printed_1 (by decide) ?_
  refine x_put (C := RX6) (T := TX6) (N := 20) hx hb hts inX6_printed_X6 tyX6 tyX6_ok nmX6 hown hG hw xO23 rfl 7 (by decide) (hts (.fieldLink RX6 81 "SixNumbersModel" "outSize" "I") (List.mem_of_getElem? (i := 1) rfl)) (fun _ h9 => h9) rfl (ty := .int) (by decide +kernel) rfl rfl (Nat.le_of_ble_eq_true rfl) rfl dX6_printed_2 (fun A_1 H locs eA_1 hw => ?_)
  have h := h A_1 eA_1
  refine lv_aload_n hx hb dX6_printed_5 rfl (lv_at hl 0 rfl) ?_
  refine lv_iconst (v := 0) hx hb dX6_printed_6 (by decide) ?_
  refine x_put (C := RX6) (T := TX6) (N := 20) hx hb hts inX6_printed_X6 tyX6 tyX6_ok nmX6 hown hG hw xO23 rfl 16 (by decide) (hts (.fieldLink RX6 137 "SixNumbersModel" "todos" "I") (List.mem_of_getElem? (i := 2) rfl)) (fun _ h9 => h9) rfl (ty := .int) (by decide +kernel) rfl rfl (Nat.le_of_ble_eq_true rfl) rfl dX6_printed_7 (fun A_2 H locs eA_2 hw => ?_)
  have h := h A_2 eA_2
  refine lv_aload_n hx hb dX6_printed_10 rfl (lv_at hl 0 rfl) ?_
  refine lv_iload_n hx hb dX6_printed_11 rfl (lv_at hl 1 rfl) ?_
  refine lv_iload_n hx hb dX6_printed_12 rfl (lv_at hl 2 rfl) ?_
  refine x_callv hG hw (va_runV (As := [.int x1, .int x2]) (rest := []) ⟨hx, hb, hml, hown, hts⟩ (c_X6_later (l := l) (G := G) h) (cwV 2 hts gX6_printed_X6_later rfl rfl rfl (by decide +kernel) ⟨Nat.le_of_ble_eq_true rfl, Nat.le_of_ble_eq_true rfl⟩) (x_preV hG hw xO23 rfl) rfl rfl hl.1 rfl (lv_room (Nat.le_of_ble_eq_true rfl)) dX6_printed_13 ⟨Nat.le_of_ble_eq_true rfl, Nat.le_of_ble_eq_true rfl⟩) (fun A_3 L_4 H locs hw h => ?_)
  obtain ⟨n9, h⟩ := h
  exact t_X6_printed_16 C0 n9 A_3 L_4 _ _ _ hw (lv_sub hl [0] rfl) h
theorem c_X6_printed {l : Launch} {G : xGt} {x1 : Int32} {x2 : Int32} {A : xM} {L : xL} {post : Int32 → xM → xL → Prop} (h : v_X6_printed x1 x2 A L post) : Met l yX6_printed wsX6_printed rX6_printed (va_Pc [.ref (xad G 23), .int x1, .int x2] (xPre G A L)) (xQi G post) 0 0 (xAf G) :=
  x_met RX6 rfl (by decide) rfl (Nat.le_of_ble_eq_true rfl) (fun p e s m below meth c ls C0 hw hl => t_X6_printed_0 C0 hw hl h)
end MECH
abbrev rX6_print : Room := { frames := 4, cells := 0, slots := 0, locals := 100 }
def v_X6_print (x1 : Int32) (A : xM) (L : xL) (post : Int32 → xM → xL → Prop) : Prop := v_X6_in (x1).toInt64 (1 : Int64) (3000 : Int64) (fun (r_1 : Int32) => ((¬ r_1 = 0 → (v_X6_heap A L (fun (A_3 : xM) (L_4 : xL) => (v_X6_firstSet x1 A_3 L_4 (fun (r_5 : Int32) => ((0 ≤ r_5 → (v_X6_printed r_5 x1 A_3 L_4 (fun (r_7 : Int32) (A_8 : xM) (L_9 : xL) => (post r_7 A_8 L_9)))) ∧ (¬ 0 ≤ r_5 → (post (-1003 : Int32) A_3 L_4)))))))) ∧ (r_1 = 0 → (post (-1002 : Int32) A L))))
section MECH
variable {p : Program} {l : Launch} {e : Env} {s : State} {m : MethodId} {args : Array Value} {below : List Frame} {meth : Method} {c : Code} {G : xGt}
set_option maxHeartbeats 4000000 in
set_option maxRecDepth 100000 in
theorem t_X6_print_0 (C0 : xC p s m args meth c G cX6_print (some .int) wsX6_print RX6 3) {post : Int32 → xM → xL → Prop} {x1 : Int32} {A : xM} {L : xL} {H : Heap} {locs : List Loc} {ls : Array Slot} (hw : xW G s.heap A L H locs) (hl : lv_has ls 3 [(0, .ref (xad G 23)), (1, .int x1)]) (h : v_X6_print x1 A L post) : W p l e rX6_print s m args below meth c H locs 0 0 (MQ below (xQi G post) args s 0 0 (xAf G)) (F0 m 0 ls []) := by
  obtain ⟨hx, hb, hr, hts, hown, hml, hlocks, hG⟩ := id C0
  unfold v_X6_print at h
  refine lv_iload_n hx hb dX6_print_0 rfl (lv_at hl 1 rfl) ?_
  refine lv_i2l hx hb dX6_print_1 rfl ?_
  refine lv_lconst (v := 1) hx hb dX6_print_2 (by decide) ?_
  refine lv_ldc2 (v := (3000 : Int64)) hx hb hown (hts _ (List.mem_of_getElem? (i := 1) rfl)) dX6_print_3 ?_
  refine x_calli hG hw (va_runS (As := [.long (x1).toInt64, .long (1 : Int64), .long (3000 : Int64)]) (rest := []) ⟨hx, hb, hml, hown, hts⟩ (c_X6_in (l := l) (G := G) h) (va_cwS 3 hts gX6_print_X6_in rfl rfl rfl (by decide +kernel) ⟨Nat.le_of_ble_eq_true rfl, Nat.le_of_ble_eq_true rfl⟩) (x_preS hG hw) rfl rfl hl.1 rfl (lv_room (Nat.le_of_ble_eq_true rfl)) dX6_print_6 ⟨Nat.le_of_ble_eq_true rfl, Nat.le_of_ble_eq_true rfl⟩) (fun r_1 A9 L9 H locs hw h => ?_)
  rw [h.2.1, h.2.2] at hw
  have h := h.1
  refine lv_if_ne (tgt := 16) hx hb dX6_print_9 (by decide) (fun c_2 => ?_) (fun c_2 => ?_)
  · have h := h.1 c_2
    refine lv_aload_n hx hb dX6_print_16 rfl (lv_at hl 0 rfl) ?_
    refine x_callv hG hw (va_runV (As := []) (rest := []) ⟨hx, hb, hml, hown, hts⟩ (c_X6_heap (l := l) (G := G) h) (cwV 0 hts gX6_print_X6_heap rfl rfl rfl (by decide +kernel) ⟨Nat.le_of_ble_eq_true rfl, Nat.le_of_ble_eq_true rfl⟩) (x_preV hG hw xO23 rfl) rfl rfl hl.1 rfl (lv_room (Nat.le_of_ble_eq_true rfl)) dX6_print_17 ⟨Nat.le_of_ble_eq_true rfl, Nat.le_of_ble_eq_true rfl⟩) (fun A_3 L_4 H locs hw h => ?_)
    refine lv_aload_n hx hb dX6_print_20 rfl (lv_at hl 0 rfl) ?_
    refine lv_iload_n hx hb dX6_print_21 rfl (lv_at hl 1 rfl) ?_
    refine x_calli hG hw (va_runV (As := [.int x1]) (rest := []) ⟨hx, hb, hml, hown, hts⟩ (c_X6_firstSet (l := l) (G := G) h) (cwV 1 hts gX6_print_X6_firstSet rfl rfl rfl (by decide +kernel) ⟨Nat.le_of_ble_eq_true rfl, Nat.le_of_ble_eq_true rfl⟩) (x_preV hG hw xO23 rfl) rfl rfl hl.1 rfl (lv_room (Nat.le_of_ble_eq_true rfl)) dX6_print_22 ⟨Nat.le_of_ble_eq_true rfl, Nat.le_of_ble_eq_true rfl⟩) (fun r_5 A9 L9 H locs hw h => ?_)
    rw [h.2.1, h.2.2] at hw
    have h := h.1
    refine lv_istore_n (lv' := [(2, .int r_5), (0, .ref (xad G 23)), (1, .int x1)]) hx hb dX6_print_25 rfl hl (by decide) rfl (fun ls hl => ?_)
    refine lv_iload_n hx hb dX6_print_26 rfl (lv_at hl 0 rfl) ?_
    refine lv_if_ge (tgt := 36) hx hb dX6_print_27 (by decide) (fun c_6 => ?_) (fun c_6 => ?_)
    · have h := h.1 c_6
      refine lv_aload_n hx hb dX6_print_36 rfl (lv_at hl 1 rfl) ?_
      refine lv_iload_n hx hb dX6_print_37 rfl (lv_at hl 0 rfl) ?_
      refine lv_iload_n hx hb dX6_print_38 rfl (lv_at hl 2 rfl) ?_
      refine x_calli hG hw (va_runV (As := [.int r_5, .int x1]) (rest := []) ⟨hx, hb, hml, hown, hts⟩ (c_X6_printed (l := l) (G := G) h) (cwV 2 hts gX6_print_X6_printed rfl rfl rfl (by decide +kernel) ⟨Nat.le_of_ble_eq_true rfl, Nat.le_of_ble_eq_true rfl⟩) (x_preV hG hw xO23 rfl) rfl rfl hl.1 rfl (lv_room (Nat.le_of_ble_eq_true rfl)) dX6_print_39 ⟨Nat.le_of_ble_eq_true rfl, Nat.le_of_ble_eq_true rfl⟩) (fun r_7 A_8 L_9 H locs hw h => ?_)
      exact x_iret hx hb hr hlocks hG hw h dX6_print_42
    · have h := h.2 c_6
      refine lv_sipush (v := (-1003)) hx hb dX6_print_30 (by decide) ?_
      refine lv_goto (tgt := 42) hx hb dX6_print_33 (by decide) ?_
      exact x_iret hx hb hr hlocks hG hw h dX6_print_42
  · have h := h.2 c_2
    refine lv_sipush (v := (-1002)) hx hb dX6_print_12 (by decide) ?_
    exact x_iret hx hb hr hlocks hG hw h dX6_print_15
theorem c_X6_print {l : Launch} {G : xGt} {x1 : Int32} {A : xM} {L : xL} {post : Int32 → xM → xL → Prop} (h : v_X6_print x1 A L post) : Met l yX6_print wsX6_print rX6_print (va_Pc [.ref (xad G 23), .int x1] (xPre G A L)) (xQi G post) 0 0 (xAf G) :=
  x_met RX6 rfl (by decide) rfl (Nat.le_of_ble_eq_true rfl) (fun p e s m below meth c ls C0 hw hl => t_X6_print_0 C0 hw hl h)
end MECH
abbrev rX6_printOf : Room := { frames := 4, cells := 0, slots := 0, locals := 100 }
theorem inX6_printOf_X6 : ∀ w ∈ wsX60, w ∈ wsX6_printOf := fun w h => List.mem_cons_of_mem _ (List.mem_append_right _ h)
def v_X6_printOf (x1 : Int32) (x2 : Int32) (A : xM) (L : xL) (post : Int32 → xM → xL → Prop) : Prop := v_X6_isSet x1 A L (fun (r_1 : Int32) => ((r_1 = 0 → (post (-1002 : Int32) A L)) ∧ (¬ r_1 = 0 → (v_X6_in (x2).toInt64 (1 : Int64) (3000 : Int64) (fun (r_3 : Int32) => ((¬ r_3 = 0 → (v_X6_heap A L (fun (A_5 : xM) (L_6 : xL) => (vp_in (((3001 : Int32) * x1) + x2) 192064 ∧ (((lg_cmp (L_6 28 (((3001 : Int32) * x1) + x2).toNatClampNeg) (0 : Int64)) ≤ 0 → (post (-1003 : Int32) A_5 L_6)) ∧ (¬ (lg_cmp (L_6 28 (((3001 : Int32) * x1) + x2).toNatClampNeg) (0 : Int64)) ≤ 0 → (v_X6_printed x1 x2 A_5 L_6 (fun (r_9 : Int32) (A_10 : xM) (L_11 : xL) => (post r_9 A_10 L_11))))))))) ∧ (r_3 = 0 → (post (-1002 : Int32) A L))))))))
section MECH
variable {p : Program} {l : Launch} {e : Env} {s : State} {m : MethodId} {args : Array Value} {below : List Frame} {meth : Method} {c : Code} {G : xGt}
set_option maxHeartbeats 4000000 in
set_option maxRecDepth 100000 in
theorem t_X6_printOf_0 (C0 : xC p s m args meth c G cX6_printOf (some .int) wsX6_printOf RX6 3) {post : Int32 → xM → xL → Prop} {x1 : Int32} {x2 : Int32} {A : xM} {L : xL} {H : Heap} {locs : List Loc} {ls : Array Slot} (hw : xW G s.heap A L H locs) (hl : lv_has ls 3 [(0, .ref (xad G 23)), (1, .int x1), (2, .int x2)]) (h : v_X6_printOf x1 x2 A L post) : W p l e rX6_printOf s m args below meth c H locs 0 0 (MQ below (xQi G post) args s 0 0 (xAf G)) (F0 m 0 ls []) := by
  obtain ⟨hx, hb, hr, hts, hown, hml, hlocks, hG⟩ := id C0
  unfold v_X6_printOf at h
  refine lv_aload_n hx hb dX6_printOf_0 rfl (lv_at hl 0 rfl) ?_
  refine lv_iload_n hx hb dX6_printOf_1 rfl (lv_at hl 1 rfl) ?_
  refine x_calli hG hw (va_runV (As := [.int x1]) (rest := []) ⟨hx, hb, hml, hown, hts⟩ (c_X6_isSet (l := l) (G := G) h) (cwV 1 hts gX6_printOf_X6_isSet rfl rfl rfl (by decide +kernel) ⟨Nat.le_of_ble_eq_true rfl, Nat.le_of_ble_eq_true rfl⟩) (x_preV hG hw xO23 rfl) rfl rfl hl.1 rfl (lv_room (Nat.le_of_ble_eq_true rfl)) dX6_printOf_2 ⟨Nat.le_of_ble_eq_true rfl, Nat.le_of_ble_eq_true rfl⟩) (fun r_1 A9 L9 H locs hw h => ?_)
  rw [h.2.1, h.2.2] at hw
  have h := h.1
  refine lv_if_eq (tgt := 20) hx hb dX6_printOf_5 (by decide) (fun c_2 => ?_) (fun c_2 => ?_)
  · have h := h.1 c_2
    refine lv_sipush (v := (-1002)) hx hb dX6_printOf_20 (by decide) ?_
    exact x_iret hx hb hr hlocks hG hw h dX6_printOf_23
  · have h := h.2 c_2
    refine lv_iload_n hx hb dX6_printOf_8 rfl (lv_at hl 2 rfl) ?_
    refine lv_i2l hx hb dX6_printOf_9 rfl ?_
    refine lv_lconst (v := 1) hx hb dX6_printOf_10 (by decide) ?_
    refine lv_ldc2 (v := (3000 : Int64)) hx hb hown (hts _ (List.mem_of_getElem? (i := 1) rfl)) dX6_printOf_11 ?_
    refine x_calli hG hw (va_runS (As := [.long (x2).toInt64, .long (1 : Int64), .long (3000 : Int64)]) (rest := []) ⟨hx, hb, hml, hown, hts⟩ (c_X6_in (l := l) (G := G) h) (va_cwS 3 hts gX6_printOf_X6_in rfl rfl rfl (by decide +kernel) ⟨Nat.le_of_ble_eq_true rfl, Nat.le_of_ble_eq_true rfl⟩) (x_preS hG hw) rfl rfl hl.1 rfl (lv_room (Nat.le_of_ble_eq_true rfl)) dX6_printOf_14 ⟨Nat.le_of_ble_eq_true rfl, Nat.le_of_ble_eq_true rfl⟩) (fun r_3 A9 L9 H locs hw h => ?_)
    rw [h.2.1, h.2.2] at hw
    have h := h.1
    refine lv_if_ne (tgt := 24) hx hb dX6_printOf_17 (by decide) (fun c_4 => ?_) (fun c_4 => ?_)
    · have h := h.1 c_4
      refine lv_aload_n hx hb dX6_printOf_24 rfl (lv_at hl 0 rfl) ?_
      refine x_callv hG hw (va_runV (As := []) (rest := []) ⟨hx, hb, hml, hown, hts⟩ (c_X6_heap (l := l) (G := G) h) (cwV 0 hts gX6_printOf_X6_heap rfl rfl rfl (by decide +kernel) ⟨Nat.le_of_ble_eq_true rfl, Nat.le_of_ble_eq_true rfl⟩) (x_preV hG hw xO23 rfl) rfl rfl hl.1 rfl (lv_room (Nat.le_of_ble_eq_true rfl)) dX6_printOf_25 ⟨Nat.le_of_ble_eq_true rfl, Nat.le_of_ble_eq_true rfl⟩) (fun A_5 L_6 H locs hw h => ?_)
      refine lv_aload_n hx hb dX6_printOf_28 rfl (lv_at hl 0 rfl) ?_
      refine x_get (C := RX6) (T := TX6) (N := 20) hx hb hts inX6_printOf_X6 hown hG hw xO23 rfl 10 (by decide) (hts (.fieldLink RX6 30 "SixNumbersModel" "ways" "[J") (List.mem_of_getElem? (i := 2) rfl)) (fun _ h9 => h9) (v := .ref (xad G 28)) rfl dX6_printOf_29 ?_
      refine lv_sipush (v := 3001) hx hb dX6_printOf_32 (by decide) ?_
      refine lv_iload_n hx hb dX6_printOf_35 rfl (lv_at hl 1 rfl) ?_
      refine lv_imul hx hb dX6_printOf_36 ?_
      refine lv_iload_n hx hb dX6_printOf_37 rfl (lv_at hl 2 rfl) ?_
      refine lv_iadd hx hb dX6_printOf_38 ?_
      have i_7 := h.1
      have h := h.2
      refine x_lald hx hb hG hw xb28 i_7 dX6_printOf_39 ?_
      refine lv_lconst (v := 0) hx hb dX6_printOf_40 (by decide) ?_
      refine W.lcmp hx hb dX6_printOf_41 ?_
      refine lv_if_le (tgt := 54) hx hb dX6_printOf_42 (by decide) (fun c_8 => ?_) (fun c_8 => ?_)
      · have h := h.1 c_8
        refine lv_sipush (v := (-1003)) hx hb dX6_printOf_54 (by decide) ?_
        exact x_iret hx hb hr hlocks hG hw h dX6_printOf_57
      · have h := h.2 c_8
        refine lv_aload_n hx hb dX6_printOf_45 rfl (lv_at hl 0 rfl) ?_
        refine lv_iload_n hx hb dX6_printOf_46 rfl (lv_at hl 1 rfl) ?_
        refine lv_iload_n hx hb dX6_printOf_47 rfl (lv_at hl 2 rfl) ?_
        refine x_calli hG hw (va_runV (As := [.int x1, .int x2]) (rest := []) ⟨hx, hb, hml, hown, hts⟩ (c_X6_printed (l := l) (G := G) h) (cwV 2 hts gX6_printOf_X6_printed rfl rfl rfl (by decide +kernel) ⟨Nat.le_of_ble_eq_true rfl, Nat.le_of_ble_eq_true rfl⟩) (x_preV hG hw xO23 rfl) rfl rfl hl.1 rfl (lv_room (Nat.le_of_ble_eq_true rfl)) dX6_printOf_48 ⟨Nat.le_of_ble_eq_true rfl, Nat.le_of_ble_eq_true rfl⟩) (fun r_9 A_10 L_11 H locs hw h => ?_)
        refine lv_goto (tgt := 57) hx hb dX6_printOf_51 (by decide) ?_
        exact x_iret hx hb hr hlocks hG hw h dX6_printOf_57
    · have h := h.2 c_4
      refine lv_sipush (v := (-1002)) hx hb dX6_printOf_20 (by decide) ?_
      exact x_iret hx hb hr hlocks hG hw h dX6_printOf_23
theorem c_X6_printOf {l : Launch} {G : xGt} {x1 : Int32} {x2 : Int32} {A : xM} {L : xL} {post : Int32 → xM → xL → Prop} (h : v_X6_printOf x1 x2 A L post) : Met l yX6_printOf wsX6_printOf rX6_printOf (va_Pc [.ref (xad G 23), .int x1, .int x2] (xPre G A L)) (xQi G post) 0 0 (xAf G) :=
  x_met RX6 rfl (by decide) rfl (Nat.le_of_ble_eq_true rfl) (fun p e s m below meth c ls C0 hw hl => t_X6_printOf_0 C0 hw hl h)
end MECH
abbrev rX6_out : Room := { frames := 1, cells := 0, slots := 0, locals := 25 }
theorem inX6_out_X6 : ∀ w ∈ wsX60, w ∈ wsX6_out := fun w h => List.mem_cons_of_mem _ (List.mem_append_right _ h)
def v_X6_out (x1 : Int32) (A : xM) (L : xL) (post : Int32 → Prop) : Prop := v_X6_in (x1).toInt64 (0 : Int64) (((A 23 7) - (1 : Int32))).toInt64 (fun (r_1 : Int32) => ((r_1 = 0 → (post (-1 : Int32))) ∧ (¬ r_1 = 0 → (vp_in x1 100 ∧ (post (A 26 x1.toNatClampNeg))))))
section MECH
variable {p : Program} {l : Launch} {e : Env} {s : State} {m : MethodId} {args : Array Value} {below : List Frame} {meth : Method} {c : Code} {G : xGt}
set_option maxHeartbeats 4000000 in
set_option maxRecDepth 100000 in
theorem t_X6_out_0 (C0 : xC p s m args meth c G cX6_out (some .int) wsX6_out RX6 2) {post : Int32 → Prop} {x1 : Int32} {A : xM} {L : xL} {H : Heap} {locs : List Loc} {ls : Array Slot} (hw : xW G s.heap A L H locs) (hl : lv_has ls 2 [(0, .ref (xad G 23)), (1, .int x1)]) (h : v_X6_out x1 A L post) : W p l e rX6_out s m args below meth c H locs 0 0 (MQ below (xQi G (xpi A L post)) args s 0 0 (xAf G)) (F0 m 0 ls []) := by
  obtain ⟨hx, hb, hr, hts, hown, hml, hlocks, hG⟩ := id C0
  unfold v_X6_out at h
  refine lv_iload_n hx hb dX6_out_0 rfl (lv_at hl 1 rfl) ?_
  refine lv_i2l hx hb dX6_out_1 rfl ?_
  refine lv_lconst (v := 0) hx hb dX6_out_2 (by decide) ?_
  refine lv_aload_n hx hb dX6_out_3 rfl (lv_at hl 0 rfl) ?_
  refine x_get (C := RX6) (T := TX6) (N := 20) hx hb hts inX6_out_X6 hown hG hw xO23 rfl 7 (by decide) (hts (.fieldLink RX6 81 "SixNumbersModel" "outSize" "I") (List.mem_of_getElem? (i := 1) rfl)) (fun _ h9 => h9) (v := .int (A 23 7)) rfl dX6_out_4 ?_
  refine lv_iconst (v := 1) hx hb dX6_out_7 (by decide) ?_
  refine lv_isub hx hb dX6_out_8 ?_
  refine lv_i2l hx hb dX6_out_9 rfl ?_
  refine x_calli hG hw (va_runS (As := [.long (x1).toInt64, .long (0 : Int64), .long (((A 23 7) - (1 : Int32))).toInt64]) (rest := []) ⟨hx, hb, hml, hown, hts⟩ (c_X6_in (l := l) (G := G) h) (va_cwS 3 hts gX6_out_X6_in rfl rfl rfl (by decide +kernel) ⟨Nat.le_of_ble_eq_true rfl, Nat.le_of_ble_eq_true rfl⟩) (x_preS hG hw) rfl rfl hl.1 rfl (lv_room (Nat.le_of_ble_eq_true rfl)) dX6_out_10 ⟨Nat.le_of_ble_eq_true rfl, Nat.le_of_ble_eq_true rfl⟩) (fun r_1 A9 L9 H locs hw h => ?_)
  rw [h.2.1, h.2.2] at hw
  have h := h.1
  refine lv_if_eq (tgt := 25) hx hb dX6_out_13 (by decide) (fun c_2 => ?_) (fun c_2 => ?_)
  · have h := h.1 c_2
    refine lv_iconst (v := (-1)) hx hb dX6_out_25 (by decide) ?_
    exact x_iret hx hb hr hlocks hG hw ⟨h, rfl, rfl⟩ dX6_out_26
  · have h := h.2 c_2
    refine lv_aload_n hx hb dX6_out_16 rfl (lv_at hl 0 rfl) ?_
    refine x_get (C := RX6) (T := TX6) (N := 20) hx hb hts inX6_out_X6 hown hG hw xO23 rfl 6 (by decide) (hts (.fieldLink RX6 23 "SixNumbersModel" "out" "[I") (List.mem_of_getElem? (i := 2) rfl)) (fun _ h9 => h9) (v := .ref (xad G 26)) rfl dX6_out_17 ?_
    refine lv_iload_n hx hb dX6_out_20 rfl (lv_at hl 1 rfl) ?_
    have i_3 := h.1
    have h := h.2
    refine x_iald hx hb hG hw xb26 i_3 dX6_out_21 ?_
    refine lv_goto (tgt := 26) hx hb dX6_out_22 (by decide) ?_
    exact x_iret hx hb hr hlocks hG hw ⟨h, rfl, rfl⟩ dX6_out_26
theorem c_X6_out {l : Launch} {G : xGt} {x1 : Int32} {A : xM} {L : xL} {post : Int32 → Prop} (h : v_X6_out x1 A L post) : Met l yX6_out wsX6_out rX6_out (va_Pc [.ref (xad G 23), .int x1] (xPre G A L)) (xQi G (xpi A L post)) 0 0 (xAf G) :=
  x_met RX6 rfl (by decide) rfl (Nat.le_of_ble_eq_true rfl) (fun p e s m below meth c ls C0 hw hl => t_X6_out_0 C0 hw hl h)
end MECH
