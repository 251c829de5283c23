abbrev rX6_in : Room := { frames := 0, cells := 0, slots := 0, locals := 0 }
def v_X6_in (y0 : Int64) (y2 : Int64) (y4 : Int64) (post : Int32 → Prop) : Prop := ((lg_cmp y0 y2) < 0 → (post (0 : Int32))) ∧ (¬ (lg_cmp y0 y2) < 0 → ((0 < (lg_cmp y0 y4) → (post (0 : Int32))) ∧ (¬ 0 < (lg_cmp y0 y4) → (post (1 : Int32)))))
section MECH
variable {p : Program} {l : Launch} {e : Env} {s : State} {m : MethodId} {args : Array Value} {below : List Frame} {meth : Method} {c : Code} {G : xGt}
set_option maxHeartbeats 4000000 in
set_option maxRecDepth 100000 in
theorem t_X6_in_0 (C0 : xC p s m args meth c G cX6_in (some .boolean) wsX6_in RX6 6) {post : Int32 → Prop} {y0 : Int64} {y2 : Int64} {y4 : Int64} {A : xM} {L : xL} {H : Heap} {locs : List Loc} {ls : Array Slot} (hw : xW G s.heap A L H locs) (hl : lv_has ls 6 [(0, .long y0), (2, .long y2), (4, .long y4)]) (h : v_X6_in y0 y2 y4 post) : W p l e rX6_in s m args below meth c H locs 0 0 (MQ below (xQi G (xpi A L post)) args s 0 0 (xAf G)) (F0 m 0 ls []) := by
  obtain ⟨hx, hb, hr, hts, hown, hml, hlocks, hG⟩ := id C0
  unfold v_X6_in at h
  refine lv_lload_n hx hb dX6_in_0 rfl (lv_at hl 0 rfl) ?_
  refine lv_lload_n hx hb dX6_in_1 rfl (lv_at hl 1 rfl) ?_
  refine W.lcmp hx hb dX6_in_2 ?_
  refine lv_if_lt (tgt := 17) hx hb dX6_in_3 (by decide) (fun c_1 => ?_) (fun c_1 => ?_)
  · have h := h.1 c_1
    refine lv_iconst (v := 0) hx hb dX6_in_17 (by decide) ?_
    exact x_zret hx hb hr hlocks hG hw (by decide) ⟨h, rfl, rfl⟩ dX6_in_18
  · have h := h.2 c_1
    refine lv_lload_n hx hb dX6_in_6 rfl (lv_at hl 0 rfl) ?_
    refine lv_lload hx hb dX6_in_7 (lv_at hl 2 rfl) ?_
    refine W.lcmp hx hb dX6_in_9 ?_
    refine lv_if_gt (tgt := 17) hx hb dX6_in_10 (by decide) (fun c_2 => ?_) (fun c_2 => ?_)
    · have h := h.1 c_2
      refine lv_iconst (v := 0) hx hb dX6_in_17 (by decide) ?_
      exact x_zret hx hb hr hlocks hG hw (by decide) ⟨h, rfl, rfl⟩ dX6_in_18
    · have h := h.2 c_2
      refine lv_iconst (v := 1) hx hb dX6_in_13 (by decide) ?_
      refine lv_goto (tgt := 18) hx hb dX6_in_14 (by decide) ?_
      exact x_zret hx hb hr hlocks hG hw (by decide) ⟨h, rfl, rfl⟩ dX6_in_18
theorem c_X6_in {l : Launch} {G : xGt} {y0 : Int64} {y2 : Int64} {y4 : Int64} {A : xM} {L : xL} {post : Int32 → Prop} (h : v_X6_in y0 y2 y4 post) : Met l yX6_in wsX6_in rX6_in (va_Pc [.long y0, .long y2, .long y4] (xPre G A L)) (xQi G (xpi A L post)) 0 0 (xAf G) :=
  x_met RX6 rfl (by decide) rfl (Nat.le_of_ble_eq_true rfl) (fun p e s m below meth c ls C0 hw hl => t_X6_in_0 C0 hw hl h)
end MECH
abbrev rX6_bits : Room := { frames := 0, cells := 0, slots := 0, locals := 0 }
def v_X6_bits_4 (x0 : Int32) (post : Int32 → Prop) : Nat → Int32 → Int32 → Prop
  | 0, _, _ => False
  | n + 1, x1, x2 => ((10 : Int32) ≤ x2 → (post x1)) ∧ (¬ (10 : Int32) ≤ x2 → (∀ x1_2 : Int32, x1_2 = (x1 + ((x0 >>> (x2 &&& 31)) &&& (1 : Int32))) → (∀ x2_3 : Int32, x2_3 = x2 + (1 : Int32) → (v_X6_bits_4 x0 post n x1_2 x2_3))))
def v_X6_bits (x0 : Int32) (post : Int32 → Prop) : Prop := ∃ k9 : Nat, v_X6_bits_4 x0 post k9 (0 : Int32) (0 : Int32)
section MECH
variable {p : Program} {l : Launch} {e : Env} {s : State} {m : MethodId} {args : Array Value} {below : List Frame} {meth : Method} {c : Code} {G : xGt}
set_option maxHeartbeats 4000000 in
set_option maxRecDepth 100000 in
theorem t_X6_bits_4 (C0 : xC p s m args meth c G cX6_bits (some .int) wsX6_bits RX6 3) {post : Int32 → Prop} {x0 : Int32} {A : xM} {L : xL} : ∀ (n : Nat) (x1 : Int32) (x2 : Int32) (H : Heap) (locs : List Loc) (ls : Array Slot), xW G s.heap A L H locs → lv_has ls 3 [(0, .int x0), (1, .int x1), (2, .int x2)] → v_X6_bits_4 x0 post n x1 x2 → W p l e rX6_bits s m args below meth c H locs 0 0 (MQ below (xQi G (xpi A L post)) args s 0 0 (xAf G)) (F0 m 4 ls []) := by
  obtain ⟨hx, hb, hr, hts, hown, hml, hlocks, hG⟩ := id C0
  intro n
  induction n with
  | zero => intro x1 x2 H locs ls hw hl h; exact (show False from h).elim
  | succ n ih =>
    intro x1 x2 H locs ls hw hl h
    unfold v_X6_bits_4 at h
    refine lv_iload_n hx hb dX6_bits_4 rfl (lv_at hl 2 rfl) ?_
    refine lv_bipush (v := 10) hx hb dX6_bits_5 (by decide) ?_
    refine lv_icmp_ge (tgt := 24) hx hb dX6_bits_7 (by decide) (fun c_1 => ?_) (fun c_1 => ?_)
    · have h := h.1 c_1
      refine lv_iload_n hx hb dX6_bits_24 rfl (lv_at hl 1 rfl) ?_
      exact x_iret hx hb hr hlocks hG hw ⟨h, rfl, rfl⟩ dX6_bits_25
    · have h := h.2 c_1
      refine lv_iload_n hx hb dX6_bits_10 rfl (lv_at hl 1 rfl) ?_
      refine lv_iload_n hx hb dX6_bits_11 rfl (lv_at hl 0 rfl) ?_
      refine lv_iload_n hx hb dX6_bits_12 rfl (lv_at hl 2 rfl) ?_
      refine lv_ishr hx hb dX6_bits_13 ?_
      refine lv_iconst (v := 1) hx hb dX6_bits_14 (by decide) ?_
      refine lv_iand hx hb dX6_bits_15 ?_
      refine lv_iadd hx hb dX6_bits_16 ?_
      refine lv_topi (fun x1_2 ex1_2 => ?_)
      have h := h x1_2 ex1_2
      refine lv_istore_n (lv' := [(1, .int x1_2), (0, .int x0), (2, .int x2)]) hx hb dX6_bits_17 rfl hl (by decide) rfl (fun ls hl => ?_)
      obtain ⟨x2_3, ex2_3⟩ : ∃ y : Int32, y = x2 + (1 : Int32) := ⟨_, rfl⟩
      have h := h x2_3 ex2_3
      refine lv_iinc (v := x2_3) (lv' := [(2, .int x2_3), (1, .int x1_2), (0, .int x0)]) hx hb dX6_bits_18 hl (k := 2) rfl (by rw [ex2_3]; rfl) (by decide) rfl (fun ls hl => ?_)
      refine lv_goto (tgt := 4) hx hb dX6_bits_21 (by decide) ?_
      exact ih x1_2 x2_3 _ _ _ hw (lv_sub hl [2, 1, 0] rfl) h
set_option maxHeartbeats 4000000 in
set_option maxRecDepth 100000 in
theorem t_X6_bits_0 (C0 : xC p s m args meth c G cX6_bits (some .int) wsX6_bits RX6 3) {post : Int32 → Prop} {x0 : Int32} {A : xM} {L : xL} {H : Heap} {locs : List Loc} {ls : Array Slot} (hw : xW G s.heap A L H locs) (hl : lv_has ls 3 [(0, .int x0)]) (h : v_X6_bits x0 post) : W p l e rX6_bits s m args below meth c H locs 0 0 (MQ below (xQi G (xpi A L post)) args s 0 0 (xAf G)) (F0 m 0 ls []) := by
  obtain ⟨hx, hb, hr, hts, hown, hml, hlocks, hG⟩ := id C0
  unfold v_X6_bits at h
  refine lv_iconst (v := 0) hx hb dX6_bits_0 (by decide) ?_
  refine lv_istore_n (lv' := [(1, .int (0 : Int32)), (0, .int x0)]) hx hb dX6_bits_1 rfl hl (by decide) rfl (fun ls hl => ?_)
  refine lv_iconst (v := 0) hx hb dX6_bits_2 (by decide) ?_
  refine lv_istore_n (lv' := [(2, .int (0 : Int32)), (1, .int (0 : Int32)), (0, .int x0)]) hx hb dX6_bits_3 rfl hl (by decide) rfl (fun ls hl => ?_)
  obtain ⟨n9, h⟩ := h
  exact t_X6_bits_4 C0 n9 (0 : Int32) (0 : Int32) _ _ _ hw (lv_sub hl [2, 1, 0] rfl) h
theorem c_X6_bits {l : Launch} {G : xGt} {x0 : Int32} {A : xM} {L : xL} {post : Int32 → Prop} (h : v_X6_bits x0 post) : Met l yX6_bits wsX6_bits rX6_bits (va_Pc [.int x0] (xPre G A L)) (xQi G (xpi A L post)) 0 0 (xAf G) :=
  x_met RX6 rfl (by decide) rfl (Nat.le_of_ble_eq_true rfl) (fun p e s m below meth c ls C0 hw hl => t_X6_bits_0 C0 hw hl h)
end MECH
abbrev rX6_item : Room := { frames := 1, cells := 0, slots := 0, locals := 25 }
theorem inX6_item_X6 : ∀ w ∈ wsX60, w ∈ wsX6_item := fun w h => List.mem_cons_of_mem _ (List.mem_append_right _ h)
def v_X6_item (x1 : Int32) (A : xM) (L : xL) (post : Int32 → xM → xL → Prop) : Prop := v_X6_in (x1).toInt64 (1 : Int64) (100 : Int64) (fun (r_1 : Int32) => ((¬ r_1 = 0 → ((¬ (A 23 0) = (6 : Int32) → (vp_in (A 23 0) 6 ∧ (∀ A_5 : xM, A_5 = xu A 24 (A 23 0).toNatClampNeg x1 → (∀ A_6 : xM, A_6 = xu A_5 23 0 ((A_5 23 0) + (1 : Int32)) → (∀ A_7 : xM, A_7 = xu A_6 23 13 (0 : Int32) → (post ((A_7 23 0) - (1 : Int32)) A_7 L)))))) ∧ ((A 23 0) = (6 : Int32) → (post (-1004 : Int32) A L)))) ∧ (r_1 = 0 → (post (-1002 : Int32) A L))))
section MECH
variable {p : Program} {l : Launch} {e : Env} {s : State} {m : MethodId} {args : Array Value} {below : List Frame} {meth : Method} {c : Code} {G : xGt}
set_option maxHeartbeats 4000000 in
set_option maxRecDepth 100000 in
theorem t_X6_item_0 (C0 : xC p s m args meth c G cX6_item (some .int) wsX6_item RX6 2) {post : Int32 → xM → xL → Prop} {x1 : Int32} {A : xM} {L : xL} {H : Heap} {locs : List Loc} {ls : Array Slot} (hw : xW G s.heap A L H locs) (hl : lv_has ls 2 [(0, .ref (xad G 23)), (1, .int x1)]) (h : v_X6_item x1 A L post) : W p l e rX6_item s m args below meth c H locs 0 0 (MQ below (xQi G post) args s 0 0 (xAf G)) (F0 m 0 ls []) := by
  obtain ⟨hx, hb, hr, hts, hown, hml, hlocks, hG⟩ := id C0
  unfold v_X6_item at h
  refine lv_iload_n hx hb dX6_item_0 rfl (lv_at hl 1 rfl) ?_
  refine lv_i2l hx hb dX6_item_1 rfl ?_
  refine lv_lconst (v := 1) hx hb dX6_item_2 (by decide) ?_
  refine lv_ldc2 (v := (100 : Int64)) hx hb hown (hts _ (List.mem_of_getElem? (i := 1) rfl)) dX6_item_3 ?_
  refine x_calli hG hw (va_runS (As := [.long (x1).toInt64, .long (1 : Int64), .long (100 : Int64)]) (rest := []) ⟨hx, hb, hml, hown, hts⟩ (c_X6_in (l := l) (G := G) h) (va_cwS 3 hts gX6_item_X6_in rfl rfl rfl (by decide +kernel) ⟨Nat.le_of_ble_eq_true rfl, Nat.le_of_ble_eq_true rfl⟩) (x_preS hG hw) rfl rfl hl.1 rfl (lv_room (Nat.le_of_ble_eq_true rfl)) dX6_item_6 ⟨Nat.le_of_ble_eq_true rfl, Nat.le_of_ble_eq_true rfl⟩) (fun r_1 A9 L9 H locs hw h => ?_)
  rw [h.2.1, h.2.2] at hw
  have h := h.1
  refine lv_if_ne (tgt := 16) hx hb dX6_item_9 (by decide) (fun c_2 => ?_) (fun c_2 => ?_)
  · have h := h.1 c_2
    refine lv_aload_n hx hb dX6_item_16 rfl (lv_at hl 0 rfl) ?_
    refine x_get (C := RX6) (T := TX6) (N := 20) hx hb hts inX6_item_X6 hown hG hw xO23 rfl 0 (by decide) (hts (.fieldLink RX6 61 "SixNumbersModel" "items" "I") (List.mem_of_getElem? (i := 2) rfl)) (fun _ h9 => h9) (v := .int (A 23 0)) rfl dX6_item_17 ?_
    refine lv_bipush (v := 6) hx hb dX6_item_20 (by decide) ?_
    refine lv_icmp_ne (tgt := 29) hx hb dX6_item_22 (by decide) (fun c_3 => ?_) (fun c_3 => ?_)
    · have h := h.1 c_3
      refine lv_aload_n hx hb dX6_item_29 rfl (lv_at hl 0 rfl) ?_
      refine x_get (C := RX6) (T := TX6) (N := 20) hx hb hts inX6_item_X6 hown hG hw xO23 rfl 1 (by decide) (hts (.fieldLink RX6 7 "SixNumbersModel" "numbers" "[I") (List.mem_of_getElem? (i := 3) rfl)) (fun _ h9 => h9) (v := .ref (xad G 24)) rfl dX6_item_30 ?_
      refine lv_aload_n hx hb dX6_item_33 rfl (lv_at hl 0 rfl) ?_
      refine x_get (C := RX6) (T := TX6) (N := 20) hx hb hts inX6_item_X6 hown hG hw xO23 rfl 0 (by decide) (hts (.fieldLink RX6 61 "SixNumbersModel" "items" "I") (List.mem_of_getElem? (i := 2) rfl)) (fun _ h9 => h9) (v := .int (A 23 0)) rfl dX6_item_34 ?_
      refine lv_iload_n hx hb dX6_item_37 rfl (lv_at hl 1 rfl) ?_
      have i_4 := h.1
      have h := h.2
      refine x_iast hx hb hG hw xb24 i_4 dX6_item_38 (fun A_5 H locs eA_5 hw => ?_)
      have h := h A_5 eA_5
      refine lv_aload_n hx hb dX6_item_39 rfl (lv_at hl 0 rfl) ?_
      refine lv_dup hx hb dX6_item_40 rfl ?_
      refine x_get (C := RX6) (T := TX6) (N := 20) hx hb hts inX6_item_X6 hown hG hw xO23 rfl 0 (by decide) (hts (.fieldLink RX6 61 "SixNumbersModel" "items" "I") (List.mem_of_getElem? (i := 2) rfl)) (fun _ h9 => h9) (v := .int (A_5 23 0)) rfl dX6_item_41 ?_
      refine lv_iconst (v := 1) hx hb dX6_item_44 (by decide) ?_
      refine lv_iadd hx hb dX6_item_45 ?_
      refine x_put (C := RX6) (T := TX6) (N := 20) hx hb hts inX6_item_X6 tyX6 tyX6_ok nmX6 hown hG hw xO23 rfl 0 (by decide) (hts (.fieldLink RX6 61 "SixNumbersModel" "items" "I") (List.mem_of_getElem? (i := 2) rfl)) (fun _ h9 => h9) rfl (ty := .int) (by decide +kernel) rfl rfl (Nat.le_of_ble_eq_true rfl) rfl dX6_item_46 (fun A_6 H locs eA_6 hw => ?_)
      have h := h A_6 eA_6
      refine lv_aload_n hx hb dX6_item_49 rfl (lv_at hl 0 rfl) ?_
      refine lv_iconst (v := 0) hx hb dX6_item_50 (by decide) ?_
      refine x_put (C := RX6) (T := TX6) (N := 20) hx hb hts inX6_item_X6 tyX6 tyX6_ok nmX6 hown hG hw xO23 rfl 13 (by decide) (hts (.fieldLink RX6 64 "SixNumbersModel" "isHeap" "Z") (List.mem_of_getElem? (i := 4) rfl)) (fun _ h9 => h9) rfl (ty := .boolean) (by decide +kernel) (by decide) (by decide) (Nat.le_of_ble_eq_true rfl) rfl dX6_item_51 (fun A_7 H locs eA_7 hw => ?_)
      have h := h A_7 eA_7
      refine lv_aload_n hx hb dX6_item_54 rfl (lv_at hl 0 rfl) ?_
      refine x_get (C := RX6) (T := TX6) (N := 20) hx hb hts inX6_item_X6 hown hG hw xO23 rfl 0 (by decide) (hts (.fieldLink RX6 61 "SixNumbersModel" "items" "I") (List.mem_of_getElem? (i := 2) rfl)) (fun _ h9 => h9) (v := .int (A_7 23 0)) rfl dX6_item_55 ?_
      refine lv_iconst (v := 1) hx hb dX6_item_58 (by decide) ?_
      refine lv_isub hx hb dX6_item_59 ?_
      exact x_iret hx hb hr hlocks hG hw h dX6_item_60
    · have h := h.2 c_3
      refine lv_sipush (v := (-1004)) hx hb dX6_item_25 (by decide) ?_
      exact x_iret hx hb hr hlocks hG hw h dX6_item_28
  · have h := h.2 c_2
    refine lv_sipush (v := (-1002)) hx hb dX6_item_12 (by decide) ?_
    exact x_iret hx hb hr hlocks hG hw h dX6_item_15
theorem c_X6_item {l : Launch} {G : xGt} {x1 : Int32} {A : xM} {L : xL} {post : Int32 → xM → xL → Prop} (h : v_X6_item x1 A L post) : Met l yX6_item wsX6_item rX6_item (va_Pc [.ref (xad G 23), .int x1] (xPre G A L)) (xQi G post) 0 0 (xAf G) :=
  x_met RX6 rfl (by decide) rfl (Nat.le_of_ble_eq_true rfl) (fun p e s m below meth c ls C0 hw hl => t_X6_item_0 C0 hw hl h)
end MECH
abbrev rX6_set : Room := { frames := 1, cells := 0, slots := 0, locals := 25 }
theorem inX6_set_X6 : ∀ w ∈ wsX60, w ∈ wsX6_set := fun w h => List.mem_cons_of_mem _ (List.mem_append_right _ h)
def v_X6_set (x1 : Int32) (x2 : Int32) (A : xM) (L : xL) (post : Int32 → xM → xL → Prop) : Prop := v_X6_in (x1).toInt64 (0 : Int64) (((A 23 0) - (1 : Int32))).toInt64 (fun (r_1 : Int32) => ((¬ r_1 = 0 → (v_X6_in (x2).toInt64 (1 : Int64) (100 : Int64) (fun (r_3 : Int32) => ((¬ r_3 = 0 → (vp_in x1 6 ∧ (∀ x3_6 : Int32, x3_6 = (A 24 x1.toNatClampNeg) → (∀ A_7 : xM, A_7 = xu A 24 x1.toNatClampNeg x2 → (∀ A_8 : xM, A_8 = xu A_7 23 13 (0 : Int32) → (post x3_6 A_8 L)))))) ∧ (r_3 = 0 → (post (-1002 : Int32) A L)))))) ∧ (r_1 = 0 → (post (-1001 : Int32) A L))))
section MECH
variable {p : Program} {l : Launch} {e : Env} {s : State} {m : MethodId} {args : Array Value} {below : List Frame} {meth : Method} {c : Code} {G : xGt}
set_option maxHeartbeats 4000000 in
set_option maxRecDepth 100000 in
theorem t_X6_set_0 (C0 : xC p s m args meth c G cX6_set (some .int) wsX6_set RX6 4) {post : Int32 → xM → xL → Prop} {x1 : Int32} {x2 : Int32} {A : xM} {L : xL} {H : Heap} {locs : List Loc} {ls : Array Slot} (hw : xW G s.heap A L H locs) (hl : lv_has ls 4 [(0, .ref (xad G 23)), (1, .int x1), (2, .int x2)]) (h : v_X6_set x1 x2 A L post) : W p l e rX6_set s m args below meth c H locs 0 0 (MQ below (xQi G post) args s 0 0 (xAf G)) (F0 m 0 ls []) := by
  obtain ⟨hx, hb, hr, hts, hown, hml, hlocks, hG⟩ := id C0
  unfold v_X6_set at h
  refine lv_iload_n hx hb dX6_set_0 rfl (lv_at hl 1 rfl) ?_
  refine lv_i2l hx hb dX6_set_1 rfl ?_
  refine lv_lconst (v := 0) hx hb dX6_set_2 (by decide) ?_
  refine lv_aload_n hx hb dX6_set_3 rfl (lv_at hl 0 rfl) ?_
  refine x_get (C := RX6) (T := TX6) (N := 20) hx hb hts inX6_set_X6 hown hG hw xO23 rfl 0 (by decide) (hts (.fieldLink RX6 61 "SixNumbersModel" "items" "I") (List.mem_of_getElem? (i := 1) rfl)) (fun _ h9 => h9) (v := .int (A 23 0)) rfl dX6_set_4 ?_
  refine lv_iconst (v := 1) hx hb dX6_set_7 (by decide) ?_
  refine lv_isub hx hb dX6_set_8 ?_
  refine lv_i2l hx hb dX6_set_9 rfl ?_
  refine x_calli hG hw (va_runS (As := [.long (x1).toInt64, .long (0 : Int64), .long (((A 23 0) - (1 : Int32))).toInt64]) (rest := []) ⟨hx, hb, hml, hown, hts⟩ (c_X6_in (l := l) (G := G) h) (va_cwS 3 hts gX6_set_X6_in rfl rfl rfl (by decide +kernel) ⟨Nat.le_of_ble_eq_true rfl, Nat.le_of_ble_eq_true rfl⟩) (x_preS hG hw) rfl rfl hl.1 rfl (lv_room (Nat.le_of_ble_eq_true rfl)) dX6_set_10 ⟨Nat.le_of_ble_eq_true rfl, Nat.le_of_ble_eq_true rfl⟩) (fun r_1 A9 L9 H locs hw h => ?_)
  rw [h.2.1, h.2.2] at hw
  have h := h.1
  refine lv_if_ne (tgt := 20) hx hb dX6_set_13 (by decide) (fun c_2 => ?_) (fun c_2 => ?_)
  · have h := h.1 c_2
    refine lv_iload_n hx hb dX6_set_20 rfl (lv_at hl 2 rfl) ?_
    refine lv_i2l hx hb dX6_set_21 rfl ?_
    refine lv_lconst (v := 1) hx hb dX6_set_22 (by decide) ?_
    refine lv_ldc2 (v := (100 : Int64)) hx hb hown (hts _ (List.mem_of_getElem? (i := 2) rfl)) dX6_set_23 ?_
    refine x_calli hG hw (va_runS (As := [.long (x2).toInt64, .long (1 : Int64), .long (100 : Int64)]) (rest := []) ⟨hx, hb, hml, hown, hts⟩ (c_X6_in (l := l) (G := G) h) (va_cwS 3 hts gX6_set_X6_in rfl rfl rfl (by decide +kernel) ⟨Nat.le_of_ble_eq_true rfl, Nat.le_of_ble_eq_true rfl⟩) (x_preS hG hw) rfl rfl hl.1 rfl (lv_room (Nat.le_of_ble_eq_true rfl)) dX6_set_26 ⟨Nat.le_of_ble_eq_true rfl, Nat.le_of_ble_eq_true rfl⟩) (fun r_3 A9 L9 H locs hw h => ?_)
    rw [h.2.1, h.2.2] at hw
    have h := h.1
    refine lv_if_ne (tgt := 36) hx hb dX6_set_29 (by decide) (fun c_4 => ?_) (fun c_4 => ?_)
    · have h := h.1 c_4
      refine lv_aload_n hx hb dX6_set_36 rfl (lv_at hl 0 rfl) ?_
      refine x_get (C := RX6) (T := TX6) (N := 20) hx hb hts inX6_set_X6 hown hG hw xO23 rfl 1 (by decide) (hts (.fieldLink RX6 7 "SixNumbersModel" "numbers" "[I") (List.mem_of_getElem? (i := 3) rfl)) (fun _ h9 => h9) (v := .ref (xad G 24)) rfl dX6_set_37 ?_
      refine lv_iload_n hx hb dX6_set_40 rfl (lv_at hl 1 rfl) ?_
      have i_5 := h.1
      have h := h.2
      refine x_iald hx hb hG hw xb24 i_5 dX6_set_41 ?_
      refine lv_topi (fun x3_6 ex3_6 => ?_)
      have h := h x3_6 ex3_6
      refine lv_istore_n (lv' := [(3, .int x3_6), (0, .ref (xad G 23)), (1, .int x1), (2, .int x2)]) hx hb dX6_set_42 rfl hl (by decide) rfl (fun ls hl => ?_)
      refine lv_aload_n hx hb dX6_set_43 rfl (lv_at hl 1 rfl) ?_
      refine x_get (C := RX6) (T := TX6) (N := 20) hx hb hts inX6_set_X6 hown hG hw xO23 rfl 1 (by decide) (hts (.fieldLink RX6 7 "SixNumbersModel" "numbers" "[I") (List.mem_of_getElem? (i := 3) rfl)) (fun _ h9 => h9) (v := .ref (xad G 24)) rfl dX6_set_44 ?_
      refine lv_iload_n hx hb dX6_set_47 rfl (lv_at hl 2 rfl) ?_
      refine lv_iload_n hx hb dX6_set_48 rfl (lv_at hl 3 rfl) ?_
      refine x_iast hx hb hG hw xb24 i_5 dX6_set_49 (fun A_7 H locs eA_7 hw => ?_)
      have h := h A_7 eA_7
      refine lv_aload_n hx hb dX6_set_50 rfl (lv_at hl 1 rfl) ?_
      refine lv_iconst (v := 0) hx hb dX6_set_51 (by decide) ?_
      refine x_put (C := RX6) (T := TX6) (N := 20) hx hb hts inX6_set_X6 tyX6 tyX6_ok nmX6 hown hG hw xO23 rfl 13 (by decide) (hts (.fieldLink RX6 64 "SixNumbersModel" "isHeap" "Z") (List.mem_of_getElem? (i := 4) rfl)) (fun _ h9 => h9) rfl (ty := .boolean) (by decide +kernel) (by decide) (by decide) (Nat.le_of_ble_eq_true rfl) rfl dX6_set_52 (fun A_8 H locs eA_8 hw => ?_)
      have h := h A_8 eA_8
      refine lv_iload_n hx hb dX6_set_55 rfl (lv_at hl 0 rfl) ?_
      exact x_iret hx hb hr hlocks hG hw h dX6_set_56
    · have h := h.2 c_4
      refine lv_sipush (v := (-1002)) hx hb dX6_set_32 (by decide) ?_
      exact x_iret hx hb hr hlocks hG hw h dX6_set_35
  · have h := h.2 c_2
    refine lv_sipush (v := (-1001)) hx hb dX6_set_16 (by decide) ?_
    exact x_iret hx hb hr hlocks hG hw h dX6_set_19
theorem c_X6_set {l : Launch} {G : xGt} {x1 : Int32} {x2 : Int32} {A : xM} {L : xL} {post : Int32 → xM → xL → Prop} (h : v_X6_set x1 x2 A L post) : Met l yX6_set wsX6_set rX6_set (va_Pc [.ref (xad G 23), .int x1, .int x2] (xPre G A L)) (xQi G post) 0 0 (xAf G) :=
  x_met RX6 rfl (by decide) rfl (Nat.le_of_ble_eq_true rfl) (fun p e s m below meth c ls C0 hw hl => t_X6_set_0 C0 hw hl h)
end MECH
abbrev rX6_cut : Room := { frames := 1, cells := 0, slots := 0, locals := 25 }
theorem inX6_cut_X6 : ∀ w ∈ wsX60, w ∈ wsX6_cut := fun w h => List.mem_cons_of_mem _ (List.mem_append_right _ h)
def v_X6_cut (x1 : Int32) (A : xM) (L : xL) (post : Int32 → xM → xL → Prop) : Prop := v_X6_in (x1).toInt64 (0 : Int64) ((A 23 0)).toInt64 (fun (r_1 : Int32) => ((¬ r_1 = 0 → (∀ x2_3 : Int32, x2_3 = ((A 23 0) - x1) → (∀ A_4 : xM, A_4 = xu A 23 0 x1 → (∀ A_5 : xM, A_5 = xu A_4 23 13 (0 : Int32) → (post x2_3 A_5 L))))) ∧ (r_1 = 0 → (post (-1002 : Int32) A L))))
section MECH
variable {p : Program} {l : Launch} {e : Env} {s : State} {m : MethodId} {args : Array Value} {below : List Frame} {meth : Method} {c : Code} {G : xGt}
set_option maxHeartbeats 4000000 in
set_option maxRecDepth 100000 in
theorem t_X6_cut_0 (C0 : xC p s m args meth c G cX6_cut (some .int) wsX6_cut RX6 3) {post : Int32 → xM → xL → Prop} {x1 : Int32} {A : xM} {L : xL} {H : Heap} {locs : List Loc} {ls : Array Slot} (hw : xW G s.heap A L H locs) (hl : lv_has ls 3 [(0, .ref (xad G 23)), (1, .int x1)]) (h : v_X6_cut x1 A L post) : W p l e rX6_cut s m args below meth c H locs 0 0 (MQ below (xQi G post) args s 0 0 (xAf G)) (F0 m 0 ls []) := by
  obtain ⟨hx, hb, hr, hts, hown, hml, hlocks, hG⟩ := id C0
  unfold v_X6_cut at h
  refine lv_iload_n hx hb dX6_cut_0 rfl (lv_at hl 1 rfl) ?_
  refine lv_i2l hx hb dX6_cut_1 rfl ?_
  refine lv_lconst (v := 0) hx hb dX6_cut_2 (by decide) ?_
  refine lv_aload_n hx hb dX6_cut_3 rfl (lv_at hl 0 rfl) ?_
  refine x_get (C := RX6) (T := TX6) (N := 20) hx hb hts inX6_cut_X6 hown hG hw xO23 rfl 0 (by decide) (hts (.fieldLink RX6 61 "SixNumbersModel" "items" "I") (List.mem_of_getElem? (i := 1) rfl)) (fun _ h9 => h9) (v := .int (A 23 0)) rfl dX6_cut_4 ?_
  refine lv_i2l hx hb dX6_cut_7 rfl ?_
  refine x_calli hG hw (va_runS (As := [.long (x1).toInt64, .long (0 : Int64), .long ((A 23 0)).toInt64]) (rest := []) ⟨hx, hb, hml, hown, hts⟩ (c_X6_in (l := l) (G := G) h) (va_cwS 3 hts gX6_cut_X6_in rfl rfl rfl (by decide +kernel) ⟨Nat.le_of_ble_eq_true rfl, Nat.le_of_ble_eq_true rfl⟩) (x_preS hG hw) rfl rfl hl.1 rfl (lv_room (Nat.le_of_ble_eq_true rfl)) dX6_cut_8 ⟨Nat.le_of_ble_eq_true rfl, Nat.le_of_ble_eq_true rfl⟩) (fun r_1 A9 L9 H locs hw h => ?_)
  rw [h.2.1, h.2.2] at hw
  have h := h.1
  refine lv_if_ne (tgt := 18) hx hb dX6_cut_11 (by decide) (fun c_2 => ?_) (fun c_2 => ?_)
  · have h := h.1 c_2
    refine lv_aload_n hx hb dX6_cut_18 rfl (lv_at hl 0 rfl) ?_
    refine x_get (C := RX6) (T := TX6) (N := 20) hx hb hts inX6_cut_X6 hown hG hw xO23 rfl 0 (by decide) (hts (.fieldLink RX6 61 "SixNumbersModel" "items" "I") (List.mem_of_getElem? (i := 1) rfl)) (fun _ h9 => h9) (v := .int (A 23 0)) rfl dX6_cut_19 ?_
    refine lv_iload_n hx hb dX6_cut_22 rfl (lv_at hl 1 rfl) ?_
    refine lv_isub hx hb dX6_cut_23 ?_
    refine lv_topi (fun x2_3 ex2_3 => ?_)
    have h := h x2_3 ex2_3
    refine lv_istore_n (lv' := [(2, .int x2_3), (0, .ref (xad G 23)), (1, .int x1)]) hx hb dX6_cut_24 rfl hl (by decide) rfl (fun ls hl => ?_)
    refine lv_aload_n hx hb dX6_cut_25 rfl (lv_at hl 1 rfl) ?_
    refine lv_iload_n hx hb dX6_cut_26 rfl (lv_at hl 2 rfl) ?_
    refine x_put (C := RX6) (T := TX6) (N := 20) hx hb hts inX6_cut_X6 tyX6 tyX6_ok nmX6 hown hG hw xO23 rfl 0 (by decide) (hts (.fieldLink RX6 61 "SixNumbersModel" "items" "I") (List.mem_of_getElem? (i := 1) rfl)) (fun _ h9 => h9) rfl (ty := .int) (by decide +kernel) rfl rfl (Nat.le_of_ble_eq_true rfl) rfl dX6_cut_27 (fun A_4 H locs eA_4 hw => ?_)
    have h := h A_4 eA_4
    refine lv_aload_n hx hb dX6_cut_30 rfl (lv_at hl 1 rfl) ?_
    refine lv_iconst (v := 0) hx hb dX6_cut_31 (by decide) ?_
    refine x_put (C := RX6) (T := TX6) (N := 20) hx hb hts inX6_cut_X6 tyX6 tyX6_ok nmX6 hown hG hw xO23 rfl 13 (by decide) (hts (.fieldLink RX6 64 "SixNumbersModel" "isHeap" "Z") (List.mem_of_getElem? (i := 2) rfl)) (fun _ h9 => h9) rfl (ty := .boolean) (by decide +kernel) (by decide) (by decide) (Nat.le_of_ble_eq_true rfl) rfl dX6_cut_32 (fun A_5 H locs eA_5 hw => ?_)
    have h := h A_5 eA_5
    refine lv_iload_n hx hb dX6_cut_35 rfl (lv_at hl 0 rfl) ?_
    exact x_iret hx hb hr hlocks hG hw h dX6_cut_36
  · have h := h.2 c_2
    refine lv_sipush (v := (-1002)) hx hb dX6_cut_14 (by decide) ?_
    exact x_iret hx hb hr hlocks hG hw h dX6_cut_17
theorem c_X6_cut {l : Launch} {G : xGt} {x1 : Int32} {A : xM} {L : xL} {post : Int32 → xM → xL → Prop} (h : v_X6_cut x1 A L post) : Met l yX6_cut wsX6_cut rX6_cut (va_Pc [.ref (xad G 23), .int x1] (xPre G A L)) (xQi G post) 0 0 (xAf G) :=
  x_met RX6 rfl (by decide) rfl (Nat.le_of_ble_eq_true rfl) (fun p e s m below meth c ls C0 hw hl => t_X6_cut_0 C0 hw hl h)
end MECH
abbrev rX6_rule : Room := { frames := 1, cells := 0, slots := 0, locals := 25 }
theorem inX6_rule_X6 : ∀ w ∈ wsX60, w ∈ wsX6_rule := fun w h => List.mem_cons_of_mem _ (List.mem_append_right _ h)
def v_X6_rule_83 (x3 : Int32) (s1 : Int32) (A : xM) (L : xL) (post : Int32 → xM → xL → Prop) : Prop := ∀ A_1 : xM, A_1 = xu A 23 3 s1 → (∀ A_2 : xM, A_2 = xu A_1 23 13 (0 : Int32) → (post x3 A_2 L))
def v_X6_rule_66 (x1 : Int32) (x2 : Int32) (x3 : Int32) (s1 : Int32) (A : xM) (L : xL) (post : Int32 → xM → xL → Prop) : Prop := ∀ A_1 : xM, A_1 = xu A 23 2 s1 → ((¬ x1 = (1 : Int32) → (v_X6_rule_83 x3 (A_1 23 3) A_1 L post)) ∧ (x1 = (1 : Int32) → (v_X6_rule_83 x3 x2 A_1 L post)))
def v_X6_rule_52 (x1 : Int32) (x2 : Int32) (s0 : Int32) (A : xM) (L : xL) (post : Int32 → xM → xL → Prop) : Prop := (¬ x1 = 0 → (v_X6_rule_66 x1 x2 s0 (A 23 2) A L post)) ∧ (x1 = 0 → (v_X6_rule_66 x1 x2 s0 x2 A L post))
def v_X6_rule_27 (x1 : Int32) (x2 : Int32) (s0 : Int64) (s1 : Int64) (s2 : Int64) (A : xM) (L : xL) (post : Int32 → xM → xL → Prop) : Prop := v_X6_in s0 s1 s2 (fun (r_1 : Int32) => ((¬ r_1 = 0 → ((¬ x1 = 0 → (v_X6_rule_52 x1 x2 (A 23 3) A L post)) ∧ (x1 = 0 → (v_X6_rule_52 x1 x2 (A 23 2) A L post)))) ∧ (r_1 = 0 → (post (-1002 : Int32) A L))))
def v_X6_rule (x1 : Int32) (x2 : Int32) (A : xM) (L : xL) (post : Int32 → xM → xL → Prop) : Prop := v_X6_in (x1).toInt64 (0 : Int64) (1 : Int64) (fun (r_1 : Int32) => ((r_1 = 0 → (post (-1002 : Int32) A L)) ∧ (¬ r_1 = 0 → ((¬ x1 = 0 → (v_X6_rule_27 x1 x2 (x2).toInt64 (x1).toInt64 (3000 : Int64) A L post)) ∧ (x1 = 0 → (v_X6_rule_27 x1 x2 (x2).toInt64 (x1).toInt64 (15 : Int64) A L post))))))
section MECH
variable {p : Program} {l : Launch} {e : Env} {s : State} {m : MethodId} {args : Array Value} {below : List Frame} {meth : Method} {c : Code} {G : xGt}
set_option maxHeartbeats 4000000 in
set_option maxRecDepth 100000 in
theorem t_X6_rule_83 (C0 : xC p s m args meth c G cX6_rule (some .int) wsX6_rule RX6 4) {post : Int32 → xM → xL → Prop} {x3 : Int32} {s1 : Int32} {A : xM} {L : xL} {H : Heap} {locs : List Loc} {ls : Array Slot} (hw : xW G s.heap A L H locs) (hl : lv_has ls 4 [(0, .ref (xad G 23)), (3, .int x3)]) (h : v_X6_rule_83 x3 s1 A L post) : W p l e rX6_rule s m args below meth c H locs 0 0 (MQ below (xQi G post) args s 0 0 (xAf G)) (F0 m 83 ls [.int s1, .ref (xad G 23)]) := by
  obtain ⟨hx, hb, hr, hts, hown, hml, hlocks, hG⟩ := id C0
  unfold v_X6_rule_83 at h
  refine x_put (C := RX6) (T := TX6) (N := 20) hx hb hts inX6_rule_X6 tyX6 tyX6_ok nmX6 hown hG hw xO23 rfl 3 (by decide) (hts (.fieldLink RX6 17 "SixNumbersModel" "most" "I") (List.mem_of_getElem? (i := 4) rfl)) (fun _ h9 => h9) rfl (ty := .int) (by decide +kernel) rfl rfl (Nat.le_of_ble_eq_true rfl) rfl dX6_rule_83 (fun A_1 H locs eA_1 hw => ?_)
  have h := h A_1 eA_1
  refine lv_aload_n hx hb dX6_rule_86 rfl (lv_at hl 0 rfl) ?_
  refine lv_iconst (v := 0) hx hb dX6_rule_87 (by decide) ?_
  refine x_put (C := RX6) (T := TX6) (N := 20) hx hb hts inX6_rule_X6 tyX6 tyX6_ok nmX6 hown hG hw xO23 rfl 13 (by decide) (hts (.fieldLink RX6 64 "SixNumbersModel" "isHeap" "Z") (List.mem_of_getElem? (i := 5) rfl)) (fun _ h9 => h9) rfl (ty := .boolean) (by decide +kernel) (by decide) (by decide) (Nat.le_of_ble_eq_true rfl) rfl dX6_rule_88 (fun A_2 H locs eA_2 hw => ?_)
  have h := h A_2 eA_2
  refine lv_iload_n hx hb dX6_rule_91 rfl (lv_at hl 1 rfl) ?_
  exact x_iret hx hb hr hlocks hG hw h dX6_rule_92
set_option maxHeartbeats 4000000 in
set_option maxRecDepth 100000 in
theorem t_X6_rule_66 (C0 : xC p s m args meth c G cX6_rule (some .int) wsX6_rule RX6 4) {post : Int32 → xM → xL → Prop} {x1 : Int32} {x2 : Int32} {x3 : Int32} {s1 : Int32} {A : xM} {L : xL} {H : Heap} {locs : List Loc} {ls : Array Slot} (hw : xW G s.heap A L H locs) (hl : lv_has ls 4 [(0, .ref (xad G 23)), (1, .int x1), (2, .int x2), (3, .int x3)]) (h : v_X6_rule_66 x1 x2 x3 s1 A L post) : W p l e rX6_rule s m args below meth c H locs 0 0 (MQ below (xQi G post) args s 0 0 (xAf G)) (F0 m 66 ls [.int s1, .ref (xad G 23)]) := by
  obtain ⟨hx, hb, hr, hts, hown, hml, hlocks, hG⟩ := id C0
  unfold v_X6_rule_66 at h
  refine x_put (C := RX6) (T := TX6) (N := 20) hx hb hts inX6_rule_X6 tyX6 tyX6_ok nmX6 hown hG hw xO23 rfl 2 (by decide) (hts (.fieldLink RX6 13 "SixNumbersModel" "acts" "I") (List.mem_of_getElem? (i := 3) rfl)) (fun _ h9 => h9) rfl (ty := .int) (by decide +kernel) rfl rfl (Nat.le_of_ble_eq_true rfl) rfl dX6_rule_66 (fun A_1 H locs eA_1 hw => ?_)
  have h := h A_1 eA_1
  refine lv_aload_n hx hb dX6_rule_69 rfl (lv_at hl 0 rfl) ?_
  refine lv_iload_n hx hb dX6_rule_70 rfl (lv_at hl 1 rfl) ?_
  refine lv_iconst (v := 1) hx hb dX6_rule_71 (by decide) ?_
  refine lv_icmp_ne (tgt := 79) hx hb dX6_rule_72 (by decide) (fun c_2 => ?_) (fun c_2 => ?_)
  · have h := h.1 c_2
    refine lv_aload_n hx hb dX6_rule_79 rfl (lv_at hl 0 rfl) ?_
    refine x_get (C := RX6) (T := TX6) (N := 20) hx hb hts inX6_rule_X6 hown hG hw xO23 rfl 3 (by decide) (hts (.fieldLink RX6 17 "SixNumbersModel" "most" "I") (List.mem_of_getElem? (i := 4) rfl)) (fun _ h9 => h9) (v := .int (A_1 23 3)) rfl dX6_rule_80 ?_
    exact t_X6_rule_83 C0 hw (lv_sub hl [0, 3] rfl) h
  · have h := h.2 c_2
    refine lv_iload_n hx hb dX6_rule_75 rfl (lv_at hl 2 rfl) ?_
    refine lv_goto (tgt := 83) hx hb dX6_rule_76 (by decide) ?_
    exact t_X6_rule_83 C0 hw (lv_sub hl [0, 3] rfl) h
set_option maxHeartbeats 4000000 in
set_option maxRecDepth 100000 in
theorem t_X6_rule_52 (C0 : xC p s m args meth c G cX6_rule (some .int) wsX6_rule RX6 4) {post : Int32 → xM → xL → Prop} {x1 : Int32} {x2 : Int32} {s0 : Int32} {A : xM} {L : xL} {H : Heap} {locs : List Loc} {ls : Array Slot} (hw : xW G s.heap A L H locs) (hl : lv_has ls 4 [(0, .ref (xad G 23)), (1, .int x1), (2, .int x2)]) (h : v_X6_rule_52 x1 x2 s0 A L post) : W p l e rX6_rule s m args below meth c H locs 0 0 (MQ below (xQi G post) args s 0 0 (xAf G)) (F0 m 52 ls [.int s0]) := by
  obtain ⟨hx, hb, hr, hts, hown, hml, hlocks, hG⟩ := id C0
  unfold v_X6_rule_52 at h
  refine lv_istore_n (lv' := [(3, .int s0), (0, .ref (xad G 23)), (1, .int x1), (2, .int x2)]) hx hb dX6_rule_52 rfl hl (by decide) rfl (fun ls hl => ?_)
  refine lv_aload_n hx hb dX6_rule_53 rfl (lv_at hl 1 rfl) ?_
  refine lv_iload_n hx hb dX6_rule_54 rfl (lv_at hl 2 rfl) ?_
  refine lv_if_ne (tgt := 62) hx hb dX6_rule_55 (by decide) (fun c_1 => ?_) (fun c_1 => ?_)
  · have h := h.1 c_1
    refine lv_aload_n hx hb dX6_rule_62 rfl (lv_at hl 1 rfl) ?_
    refine x_get (C := RX6) (T := TX6) (N := 20) hx hb hts inX6_rule_X6 hown hG hw xO23 rfl 2 (by decide) (hts (.fieldLink RX6 13 "SixNumbersModel" "acts" "I") (List.mem_of_getElem? (i := 3) rfl)) (fun _ h9 => h9) (v := .int (A 23 2)) rfl dX6_rule_63 ?_
    exact t_X6_rule_66 C0 hw (lv_sub hl [1, 2, 3, 0] rfl) h
  · have h := h.2 c_1
    refine lv_iload_n hx hb dX6_rule_58 rfl (lv_at hl 3 rfl) ?_
    refine lv_goto (tgt := 66) hx hb dX6_rule_59 (by decide) ?_
    exact t_X6_rule_66 C0 hw (lv_sub hl [1, 2, 3, 0] rfl) h
set_option maxHeartbeats 4000000 in
set_option maxRecDepth 100000 in
theorem t_X6_rule_27 (C0 : xC p s m args meth c G cX6_rule (some .int) wsX6_rule RX6 4) {post : Int32 → xM → xL → Prop} {x1 : Int32} {x2 : Int32} {s0 : Int64} {s1 : Int64} {s2 : Int64} {A : xM} {L : xL} {H : Heap} {locs : List Loc} {ls : Array Slot} (hw : xW G s.heap A L H locs) (hl : lv_has ls 4 [(0, .ref (xad G 23)), (1, .int x1), (2, .int x2)]) (h : v_X6_rule_27 x1 x2 s0 s1 s2 A L post) : W p l e rX6_rule s m args below meth c H locs 0 0 (MQ below (xQi G post) args s 0 0 (xAf G)) (F0 m 27 ls [.long s2, .long s1, .long s0]) := by
  obtain ⟨hx, hb, hr, hts, hown, hml, hlocks, hG⟩ := id C0
  unfold v_X6_rule_27 at h
  refine x_calli hG hw (va_runS (As := [.long s0, .long s1, .long s2]) (rest := []) ⟨hx, hb, hml, hown, hts⟩ (c_X6_in (l := l) (G := G) h) (va_cwS 3 hts gX6_rule_X6_in rfl rfl rfl (by decide +kernel) ⟨Nat.le_of_ble_eq_true rfl, Nat.le_of_ble_eq_true rfl⟩) (x_preS hG hw) rfl rfl hl.1 rfl (lv_room (Nat.le_of_ble_eq_true rfl)) dX6_rule_27 ⟨Nat.le_of_ble_eq_true rfl, Nat.le_of_ble_eq_true rfl⟩) (fun r_1 A9 L9 H locs hw h => ?_)
  rw [h.2.1, h.2.2] at hw
  have h := h.1
  refine lv_if_ne (tgt := 37) hx hb dX6_rule_30 (by decide) (fun c_2 => ?_) (fun c_2 => ?_)
  · have h := h.1 c_2
    refine lv_iload_n hx hb dX6_rule_37 rfl (lv_at hl 1 rfl) ?_
    refine lv_if_ne (tgt := 48) hx hb dX6_rule_38 (by decide) (fun c_3 => ?_) (fun c_3 => ?_)
    · have h := h.1 c_3
      refine lv_aload_n hx hb dX6_rule_48 rfl (lv_at hl 0 rfl) ?_
      refine x_get (C := RX6) (T := TX6) (N := 20) hx hb hts inX6_rule_X6 hown hG hw xO23 rfl 3 (by decide) (hts (.fieldLink RX6 17 "SixNumbersModel" "most" "I") (List.mem_of_getElem? (i := 4) rfl)) (fun _ h9 => h9) (v := .int (A 23 3)) rfl dX6_rule_49 ?_
      exact t_X6_rule_52 C0 hw (lv_sub hl [0, 1, 2] rfl) h
    · have h := h.2 c_3
      refine lv_aload_n hx hb dX6_rule_41 rfl (lv_at hl 0 rfl) ?_
      refine x_get (C := RX6) (T := TX6) (N := 20) hx hb hts inX6_rule_X6 hown hG hw xO23 rfl 2 (by decide) (hts (.fieldLink RX6 13 "SixNumbersModel" "acts" "I") (List.mem_of_getElem? (i := 3) rfl)) (fun _ h9 => h9) (v := .int (A 23 2)) rfl dX6_rule_42 ?_
      refine lv_goto (tgt := 52) hx hb dX6_rule_45 (by decide) ?_
      exact t_X6_rule_52 C0 hw (lv_sub hl [0, 1, 2] rfl) h
  · have h := h.2 c_2
    refine lv_sipush (v := (-1002)) hx hb dX6_rule_33 (by decide) ?_
    exact x_iret hx hb hr hlocks hG hw h dX6_rule_36
set_option maxHeartbeats 4000000 in
set_option maxRecDepth 100000 in
theorem t_X6_rule_0 (C0 : xC p s m args meth c G cX6_rule (some .int) wsX6_rule RX6 4) {post : Int32 → xM → xL → Prop} {x1 : Int32} {x2 : Int32} {A : xM} {L : xL} {H : Heap} {locs : List Loc} {ls : Array Slot} (hw : xW G s.heap A L H locs) (hl : lv_has ls 4 [(0, .ref (xad G 23)), (1, .int x1), (2, .int x2)]) (h : v_X6_rule x1 x2 A L post) : W p l e rX6_rule s m args below meth c H locs 0 0 (MQ below (xQi G post) args s 0 0 (xAf G)) (F0 m 0 ls []) := by
  obtain ⟨hx, hb, hr, hts, hown, hml, hlocks, hG⟩ := id C0
  unfold v_X6_rule at h
  refine lv_iload_n hx hb dX6_rule_0 rfl (lv_at hl 1 rfl) ?_
  refine lv_i2l hx hb dX6_rule_1 rfl ?_
  refine lv_lconst (v := 0) hx hb dX6_rule_2 (by decide) ?_
  refine lv_lconst (v := 1) hx hb dX6_rule_3 (by decide) ?_
  refine x_calli hG hw (va_runS (As := [.long (x1).toInt64, .long (0 : Int64), .long (1 : Int64)]) (rest := []) ⟨hx, hb, hml, hown, hts⟩ (c_X6_in (l := l) (G := G) h) (va_cwS 3 hts gX6_rule_X6_in rfl rfl rfl (by decide +kernel) ⟨Nat.le_of_ble_eq_true rfl, Nat.le_of_ble_eq_true rfl⟩) (x_preS hG hw) rfl rfl hl.1 rfl (lv_room (Nat.le_of_ble_eq_true rfl)) dX6_rule_4 ⟨Nat.le_of_ble_eq_true rfl, Nat.le_of_ble_eq_true rfl⟩) (fun r_1 A9 L9 H locs hw h => ?_)
  rw [h.2.1, h.2.2] at hw
  have h := h.1
  refine lv_if_eq (tgt := 33) hx hb dX6_rule_7 (by decide) (fun c_2 => ?_) (fun c_2 => ?_)
  · have h := h.1 c_2
    refine lv_sipush (v := (-1002)) hx hb dX6_rule_33 (by decide) ?_
    exact x_iret hx hb hr hlocks hG hw h dX6_rule_36
  · have h := h.2 c_2
    refine lv_iload_n hx hb dX6_rule_10 rfl (lv_at hl 2 rfl) ?_
    refine lv_i2l hx hb dX6_rule_11 rfl ?_
    refine lv_iload_n hx hb dX6_rule_12 rfl (lv_at hl 1 rfl) ?_
    refine lv_i2l hx hb dX6_rule_13 rfl ?_
    refine lv_iload_n hx hb dX6_rule_14 rfl (lv_at hl 1 rfl) ?_
    refine lv_if_ne (tgt := 24) hx hb dX6_rule_15 (by decide) (fun c_3 => ?_) (fun c_3 => ?_)
    · have h := h.1 c_3
      refine lv_ldc2 (v := (3000 : Int64)) hx hb hown (hts _ (List.mem_of_getElem? (i := 2) rfl)) dX6_rule_24 ?_
      exact t_X6_rule_27 C0 hw (lv_sub hl [0, 1, 2] rfl) h
    · have h := h.2 c_3
      refine lv_ldc2 (v := (15 : Int64)) hx hb hown (hts _ (List.mem_of_getElem? (i := 1) rfl)) dX6_rule_18 ?_
      refine lv_goto (tgt := 27) hx hb dX6_rule_21 (by decide) ?_
      exact t_X6_rule_27 C0 hw (lv_sub hl [0, 1, 2] rfl) h
theorem c_X6_rule {l : Launch} {G : xGt} {x1 : Int32} {x2 : Int32} {A : xM} {L : xL} {post : Int32 → xM → xL → Prop} (h : v_X6_rule x1 x2 A L post) : Met l yX6_rule wsX6_rule rX6_rule (va_Pc [.ref (xad G 23), .int x1, .int x2] (xPre G A L)) (xQi G post) 0 0 (xAf G) :=
  x_met RX6 rfl (by decide) rfl (Nat.le_of_ble_eq_true rfl) (fun p e s m below meth c ls C0 hw hl => t_X6_rule_0 C0 hw hl h)
end MECH
abbrev rX6_told : Room := { frames := 1, cells := 0, slots := 0, locals := 25 }
theorem inX6_told_X6 : ∀ w ∈ wsX60, w ∈ wsX6_told := fun w h => List.mem_cons_of_mem _ (List.mem_append_right _ h)
def v_X6_told (x1 : Int32) (A : xM) (L : xL) (post : Int32 → Prop) : Prop := v_X6_in (x1).toInt64 (10 : Int64) (15 : Int64) (fun (r_1 : Int32) => ((r_1 = 0 → (v_X6_in (x1).toInt64 (20 : Int64) (29 : Int64) (fun (r_3 : Int32) => ((r_3 = 0 → ((x1.toInt < 0 ∨ 4 < x1.toInt → (post (-1002 : Int32))) ∧ (x1 = (0 : Int32) → (post (A 23 0))) ∧ (x1 = (1 : Int32) → (post (A 23 2))) ∧ (x1 = (2 : Int32) → (post (A 23 3))) ∧ (x1 = (3 : Int32) → (post (A 23 4))) ∧ (x1 = (4 : Int32) → (post (A 23 7))))) ∧ (¬ r_3 = 0 → (((A 23 4) ≤ (x1 - (20 : Int32)) → (post (-1 : Int32))) ∧ (¬ (A 23 4) ≤ (x1 - (20 : Int32)) → (vp_in (x1 - (20 : Int32)) 10 ∧ (post (A 25 (x1 - (20 : Int32)).toNatClampNeg)))))))))) ∧ (¬ r_1 = 0 → (((A 23 0) ≤ (x1 - (10 : Int32)) → (post (-1 : Int32))) ∧ (¬ (A 23 0) ≤ (x1 - (10 : Int32)) → (vp_in (x1 - (10 : Int32)) 6 ∧ (post (A 24 (x1 - (10 : Int32)).toNatClampNeg))))))))
section MECH
variable {p : Program} {l : Launch} {e : Env} {s : State} {m : MethodId} {args : Array Value} {below : List Frame} {meth : Method} {c : Code} {G : xGt}
set_option maxHeartbeats 4000000 in
set_option maxRecDepth 100000 in
theorem t_X6_told_0 (C0 : xC p s m args meth c G cX6_told (some .int) wsX6_told RX6 2) {post : Int32 → Prop} {x1 : Int32} {A : xM} {L : xL} {H : Heap} {locs : List Loc} {ls : Array Slot} (hw : xW G s.heap A L H locs) (hl : lv_has ls 2 [(0, .ref (xad G 23)), (1, .int x1)]) (h : v_X6_told x1 A L post) : W p l e rX6_told s m args below meth c H locs 0 0 (MQ below (xQi G (xpi A L post)) args s 0 0 (xAf G)) (F0 m 0 ls []) := by
  obtain ⟨hx, hb, hr, hts, hown, hml, hlocks, hG⟩ := id C0
  unfold v_X6_told at h
  refine lv_iload_n hx hb dX6_told_0 rfl (lv_at hl 1 rfl) ?_
  refine lv_i2l hx hb dX6_told_1 rfl ?_
  refine lv_ldc2 (v := (10 : Int64)) hx hb hown (hts _ (List.mem_of_getElem? (i := 1) rfl)) dX6_told_2 ?_
  refine lv_ldc2 (v := (15 : Int64)) hx hb hown (hts _ (List.mem_of_getElem? (i := 2) rfl)) dX6_told_5 ?_
  refine x_calli hG hw (va_runS (As := [.long (x1).toInt64, .long (10 : Int64), .long (15 : Int64)]) (rest := []) ⟨hx, hb, hml, hown, hts⟩ (c_X6_in (l := l) (G := G) h) (va_cwS 3 hts gX6_told_X6_in rfl rfl rfl (by decide +kernel) ⟨Nat.le_of_ble_eq_true rfl, Nat.le_of_ble_eq_true rfl⟩) (x_preS hG hw) rfl rfl hl.1 rfl (lv_room (Nat.le_of_ble_eq_true rfl)) dX6_told_8 ⟨Nat.le_of_ble_eq_true rfl, Nat.le_of_ble_eq_true rfl⟩) (fun r_1 A9 L9 H locs hw h => ?_)
  rw [h.2.1, h.2.2] at hw
  have h := h.1
  refine lv_if_eq (tgt := 39) hx hb dX6_told_11 (by decide) (fun c_2 => ?_) (fun c_2 => ?_)
  · have h := h.1 c_2
    refine lv_iload_n hx hb dX6_told_39 rfl (lv_at hl 1 rfl) ?_
    refine lv_i2l hx hb dX6_told_40 rfl ?_
    refine lv_ldc2 (v := (20 : Int64)) hx hb hown (hts _ (List.mem_of_getElem? (i := 5) rfl)) dX6_told_41 ?_
    refine lv_ldc2 (v := (29 : Int64)) hx hb hown (hts _ (List.mem_of_getElem? (i := 6) rfl)) dX6_told_44 ?_
    refine x_calli hG hw (va_runS (As := [.long (x1).toInt64, .long (20 : Int64), .long (29 : Int64)]) (rest := []) ⟨hx, hb, hml, hown, hts⟩ (c_X6_in (l := l) (G := G) h) (va_cwS 3 hts gX6_told_X6_in rfl rfl rfl (by decide +kernel) ⟨Nat.le_of_ble_eq_true rfl, Nat.le_of_ble_eq_true rfl⟩) (x_preS hG hw) rfl rfl hl.1 rfl (lv_room (Nat.le_of_ble_eq_true rfl)) dX6_told_47 ⟨Nat.le_of_ble_eq_true rfl, Nat.le_of_ble_eq_true rfl⟩) (fun r_3 A9 L9 H locs hw h => ?_)
    rw [h.2.1, h.2.2] at hw
    have h := h.1
    refine lv_if_eq (tgt := 78) hx hb dX6_told_50 (by decide) (fun c_4 => ?_) (fun c_4 => ?_)
    · have h := h.1 c_4
      refine lv_iload_n hx hb dX6_told_78 rfl (lv_at hl 1 rfl) ?_
      by_cases c_5 : x1.toInt < 0 ∨ 4 < x1.toInt
      · have h := h.1 c_5
        refine lv_tableOut (tgt := 137) hx hb dX6_told_79 c_5 (by decide) ?_
        refine lv_sipush (v := (-1002)) hx hb dX6_told_137 (by decide) ?_
        exact x_iret hx hb hr hlocks hG hw ⟨h, rfl, rfl⟩ dX6_told_140
      · rcases (show x1.toInt = 0 ∨ x1.toInt = 1 ∨ x1.toInt = 2 ∨ x1.toInt = 3 ∨ x1.toInt = 4 by omega) with c8 | c8 | c8 | c8 | c8
        · have c9 : x1 = (0 : Int32) := Int32.toInt_inj.mp (c8.trans (by decide))
          have h := h.2.1 c9
          refine lv_tableIn (tgt := 112) hx hb dX6_told_79 (by omega) (by omega) (by rw [c8]; rfl) (by decide) ?_
          refine lv_aload_n hx hb dX6_told_112 rfl (lv_at hl 0 rfl) ?_
          refine x_get (C := RX6) (T := TX6) (N := 20) hx hb hts inX6_told_X6 hown hG hw xO23 rfl 0 (by decide) (hts (.fieldLink RX6 61 "SixNumbersModel" "items" "I") (List.mem_of_getElem? (i := 3) rfl)) (fun _ h9 => h9) (v := .int (A 23 0)) rfl dX6_told_113 ?_
          exact x_iret hx hb hr hlocks hG hw ⟨h, rfl, rfl⟩ dX6_told_116
        · have c9 : x1 = (1 : Int32) := Int32.toInt_inj.mp (c8.trans (by decide))
          have h := h.2.2.1 c9
          refine lv_tableIn (tgt := 117) hx hb dX6_told_79 (by omega) (by omega) (by rw [c8]; rfl) (by decide) ?_
          refine lv_aload_n hx hb dX6_told_117 rfl (lv_at hl 0 rfl) ?_
          refine x_get (C := RX6) (T := TX6) (N := 20) hx hb hts inX6_told_X6 hown hG hw xO23 rfl 2 (by decide) (hts (.fieldLink RX6 13 "SixNumbersModel" "acts" "I") (List.mem_of_getElem? (i := 9) rfl)) (fun _ h9 => h9) (v := .int (A 23 2)) rfl dX6_told_118 ?_
          exact x_iret hx hb hr hlocks hG hw ⟨h, rfl, rfl⟩ dX6_told_121
        · have c9 : x1 = (2 : Int32) := Int32.toInt_inj.mp (c8.trans (by decide))
          have h := h.2.2.2.1 c9
          refine lv_tableIn (tgt := 122) hx hb dX6_told_79 (by omega) (by omega) (by rw [c8]; rfl) (by decide) ?_
          refine lv_aload_n hx hb dX6_told_122 rfl (lv_at hl 0 rfl) ?_
          refine x_get (C := RX6) (T := TX6) (N := 20) hx hb hts inX6_told_X6 hown hG hw xO23 rfl 3 (by decide) (hts (.fieldLink RX6 17 "SixNumbersModel" "most" "I") (List.mem_of_getElem? (i := 10) rfl)) (fun _ h9 => h9) (v := .int (A 23 3)) rfl dX6_told_123 ?_
          exact x_iret hx hb hr hlocks hG hw ⟨h, rfl, rfl⟩ dX6_told_126
        · have c9 : x1 = (3 : Int32) := Int32.toInt_inj.mp (c8.trans (by decide))
          have h := h.2.2.2.2.1 c9
          refine lv_tableIn (tgt := 127) hx hb dX6_told_79 (by omega) (by omega) (by rw [c8]; rfl) (by decide) ?_
          refine lv_aload_n hx hb dX6_told_127 rfl (lv_at hl 0 rfl) ?_
          refine x_get (C := RX6) (T := TX6) (N := 20) hx hb hts inX6_told_X6 hown hG hw xO23 rfl 4 (by decide) (hts (.fieldLink RX6 78 "SixNumbersModel" "cards" "I") (List.mem_of_getElem? (i := 7) rfl)) (fun _ h9 => h9) (v := .int (A 23 4)) rfl dX6_told_128 ?_
          exact x_iret hx hb hr hlocks hG hw ⟨h, rfl, rfl⟩ dX6_told_131
        · have c9 : x1 = (4 : Int32) := Int32.toInt_inj.mp (c8.trans (by decide))
          have h := h.2.2.2.2.2 c9
          refine lv_tableIn (tgt := 132) hx hb dX6_told_79 (by omega) (by omega) (by rw [c8]; rfl) (by decide) ?_
          refine lv_aload_n hx hb dX6_told_132 rfl (lv_at hl 0 rfl) ?_
          refine x_get (C := RX6) (T := TX6) (N := 20) hx hb hts inX6_told_X6 hown hG hw xO23 rfl 7 (by decide) (hts (.fieldLink RX6 81 "SixNumbersModel" "outSize" "I") (List.mem_of_getElem? (i := 11) rfl)) (fun _ h9 => h9) (v := .int (A 23 7)) rfl dX6_told_133 ?_
          exact x_iret hx hb hr hlocks hG hw ⟨h, rfl, rfl⟩ dX6_told_136
    · have h := h.2 c_4
      refine lv_iload_n hx hb dX6_told_53 rfl (lv_at hl 1 rfl) ?_
      refine lv_bipush (v := 20) hx hb dX6_told_54 (by decide) ?_
      refine lv_isub hx hb dX6_told_56 ?_
      refine lv_aload_n hx hb dX6_told_57 rfl (lv_at hl 0 rfl) ?_
      refine x_get (C := RX6) (T := TX6) (N := 20) hx hb hts inX6_told_X6 hown hG hw xO23 rfl 4 (by decide) (hts (.fieldLink RX6 78 "SixNumbersModel" "cards" "I") (List.mem_of_getElem? (i := 7) rfl)) (fun _ h9 => h9) (v := .int (A 23 4)) rfl dX6_told_58 ?_
      refine lv_icmp_ge (tgt := 76) hx hb dX6_told_61 (by decide) (fun c_6 => ?_) (fun c_6 => ?_)
      · have h := h.1 c_6
        refine lv_iconst (v := (-1)) hx hb dX6_told_76 (by decide) ?_
        exact x_iret hx hb hr hlocks hG hw ⟨h, rfl, rfl⟩ dX6_told_77
      · have h := h.2 c_6
        refine lv_aload_n hx hb dX6_told_64 rfl (lv_at hl 0 rfl) ?_
        refine x_get (C := RX6) (T := TX6) (N := 20) hx hb hts inX6_told_X6 hown hG hw xO23 rfl 5 (by decide) (hts (.fieldLink RX6 20 "SixNumbersModel" "box" "[I") (List.mem_of_getElem? (i := 8) rfl)) (fun _ h9 => h9) (v := .ref (xad G 25)) rfl dX6_told_65 ?_
        refine lv_iload_n hx hb dX6_told_68 rfl (lv_at hl 1 rfl) ?_
        refine lv_bipush (v := 20) hx hb dX6_told_69 (by decide) ?_
        refine lv_isub hx hb dX6_told_71 ?_
        have i_7 := h.1
        have h := h.2
        refine x_iald hx hb hG hw xb25 i_7 dX6_told_72 ?_
        refine lv_goto (tgt := 77) hx hb dX6_told_73 (by decide) ?_
        exact x_iret hx hb hr hlocks hG hw ⟨h, rfl, rfl⟩ dX6_told_77
  · have h := h.2 c_2
    refine lv_iload_n hx hb dX6_told_14 rfl (lv_at hl 1 rfl) ?_
    refine lv_bipush (v := 10) hx hb dX6_told_15 (by decide) ?_
    refine lv_isub hx hb dX6_told_17 ?_
    refine lv_aload_n hx hb dX6_told_18 rfl (lv_at hl 0 rfl) ?_
    refine x_get (C := RX6) (T := TX6) (N := 20) hx hb hts inX6_told_X6 hown hG hw xO23 rfl 0 (by decide) (hts (.fieldLink RX6 61 "SixNumbersModel" "items" "I") (List.mem_of_getElem? (i := 3) rfl)) (fun _ h9 => h9) (v := .int (A 23 0)) rfl dX6_told_19 ?_
    refine lv_icmp_ge (tgt := 37) hx hb dX6_told_22 (by decide) (fun c_8 => ?_) (fun c_8 => ?_)
    · have h := h.1 c_8
      refine lv_iconst (v := (-1)) hx hb dX6_told_37 (by decide) ?_
      exact x_iret hx hb hr hlocks hG hw ⟨h, rfl, rfl⟩ dX6_told_38
    · have h := h.2 c_8
      refine lv_aload_n hx hb dX6_told_25 rfl (lv_at hl 0 rfl) ?_
      refine x_get (C := RX6) (T := TX6) (N := 20) hx hb hts inX6_told_X6 hown hG hw xO23 rfl 1 (by decide) (hts (.fieldLink RX6 7 "SixNumbersModel" "numbers" "[I") (List.mem_of_getElem? (i := 4) rfl)) (fun _ h9 => h9) (v := .ref (xad G 24)) rfl dX6_told_26 ?_
      refine lv_iload_n hx hb dX6_told_29 rfl (lv_at hl 1 rfl) ?_
      refine lv_bipush (v := 10) hx hb dX6_told_30 (by decide) ?_
      refine lv_isub hx hb dX6_told_32 ?_
      have i_9 := h.1
      have h := h.2
      refine x_iald hx hb hG hw xb24 i_9 dX6_told_33 ?_
      refine lv_goto (tgt := 38) hx hb dX6_told_34 (by decide) ?_
      exact x_iret hx hb hr hlocks hG hw ⟨h, rfl, rfl⟩ dX6_told_38
theorem c_X6_told {l : Launch} {G : xGt} {x1 : Int32} {A : xM} {L : xL} {post : Int32 → Prop} (h : v_X6_told x1 A L post) : Met l yX6_told wsX6_told rX6_told (va_Pc [.ref (xad G 23), .int x1] (xPre G A L)) (xQi G (xpi A L post)) 0 0 (xAf G) :=
  x_met RX6 rfl (by decide) rfl (Nat.le_of_ble_eq_true rfl) (fun p e s m below meth c ls C0 hw hl => t_X6_told_0 C0 hw hl h)
end MECH
abbrev rX6_may : Room := { frames := 0, cells := 0, slots := 0, locals := 0 }
theorem inX6_may_X6 : ∀ w ∈ wsX60, w ∈ wsX6_may := fun w h => List.mem_cons_of_mem _ (List.mem_append_right _ h)
def v_X6_may (x1 : Int32) (A : xM) (L : xL) (post : Int32 → Prop) : Prop := (¬ (((A 23 2) >>> (x1 &&& 31)) &&& (1 : Int32)) = (1 : Int32) → (post (0 : Int32))) ∧ ((((A 23 2) >>> (x1 &&& 31)) &&& (1 : Int32)) = (1 : Int32) → (post (1 : Int32)))
section MECH
variable {p : Program} {l : Launch} {e : Env} {s : State} {m : MethodId} {args : Array Value} {below : List Frame} {meth : Method} {c : Code} {G : xGt}
set_option maxHeartbeats 4000000 in
set_option maxRecDepth 100000 in
theorem t_X6_may_0 (C0 : xC p s m args meth c G cX6_may (some .boolean) wsX6_may RX6 2) {post : Int32 → Prop} {x1 : Int32} {A : xM} {L : xL} {H : Heap} {locs : List Loc} {ls : Array Slot} (hw : xW G s.heap A L H locs) (hl : lv_has ls 2 [(0, .ref (xad G 23)), (1, .int x1)]) (h : v_X6_may x1 A L post) : W p l e rX6_may s m args below meth c H locs 0 0 (MQ below (xQi G (xpi A L post)) args s 0 0 (xAf G)) (F0 m 0 ls []) := by
  obtain ⟨hx, hb, hr, hts, hown, hml, hlocks, hG⟩ := id C0
  unfold v_X6_may at h
  refine lv_aload_n hx hb dX6_may_0 rfl (lv_at hl 0 rfl) ?_
  refine x_get (C := RX6) (T := TX6) (N := 20) hx hb hts inX6_may_X6 hown hG hw xO23 rfl 2 (by decide) (hts (.fieldLink RX6 13 "SixNumbersModel" "acts" "I") (List.mem_of_getElem? (i := 1) rfl)) (fun _ h9 => h9) (v := .int (A 23 2)) rfl dX6_may_1 ?_
  refine lv_iload_n hx hb dX6_may_4 rfl (lv_at hl 1 rfl) ?_
  refine lv_ishr hx hb dX6_may_5 ?_
  refine lv_iconst (v := 1) hx hb dX6_may_6 (by decide) ?_
  refine lv_iand hx hb dX6_may_7 ?_
  refine lv_iconst (v := 1) hx hb dX6_may_8 (by decide) ?_
  refine lv_icmp_ne (tgt := 16) hx hb dX6_may_9 (by decide) (fun c_1 => ?_) (fun c_1 => ?_)
  · have h := h.1 c_1
    refine lv_iconst (v := 0) hx hb dX6_may_16 (by decide) ?_
    exact x_zret hx hb hr hlocks hG hw (by decide) ⟨h, rfl, rfl⟩ dX6_may_17
  · have h := h.2 c_1
    refine lv_iconst (v := 1) hx hb dX6_may_12 (by decide) ?_
    refine lv_goto (tgt := 17) hx hb dX6_may_13 (by decide) ?_
    exact x_zret hx hb hr hlocks hG hw (by decide) ⟨h, rfl, rfl⟩ dX6_may_17
theorem c_X6_may {l : Launch} {G : xGt} {x1 : Int32} {A : xM} {L : xL} {post : Int32 → Prop} (h : v_X6_may x1 A L post) : Met l yX6_may wsX6_may rX6_may (va_Pc [.ref (xad G 23), .int x1] (xPre G A L)) (xQi G (xpi A L post)) 0 0 (xAf G) :=
  x_met RX6 rfl (by decide) rfl (Nat.le_of_ble_eq_true rfl) (fun p e s m below meth c ls C0 hw hl => t_X6_may_0 C0 hw hl h)
end MECH
abbrev rX6_listOf : Room := { frames := 0, cells := 0, slots := 0, locals := 0 }
theorem inX6_listOf_X6 : ∀ w ∈ wsX60, w ∈ wsX6_listOf := fun w h => List.mem_cons_of_mem _ (List.mem_append_right _ h)
def v_X6_listOf_5 (g : Nat) (x1 : Int32) (post : Int32 → xM → xL → Prop) : Nat → Int32 → Int32 → xM → xL → Prop
  | 0, _, _, _, _ => False
  | n + 1, x3, x4, A, L => ((3000 : Int32) < x4 → (post x3 A L)) ∧ (¬ (3000 : Int32) < x4 → (vp_in (((3001 : Int32) * x1) + x4) 192064 ∧ (((lg_cmp (L 28 (((3001 : Int32) * x1) + x4).toNatClampNeg) (0 : Int64)) ≤ 0 → (∀ x4_4 : Int32, x4_4 = x4 + (1 : Int32) → (v_X6_listOf_5 g x1 post n x3 x4_4 A L))) ∧ (¬ (lg_cmp (L 28 (((3001 : Int32) * x1) + x4).toNatClampNeg) (0 : Int64)) ≤ 0 → (vp_in x3 3001 ∧ (∀ A_6 : xM, A_6 = xu A g x3.toNatClampNeg x4 → (∀ x3_7 : Int32, x3_7 = x3 + (1 : Int32) → (∀ x4_8 : Int32, x4_8 = x4 + (1 : Int32) → (v_X6_listOf_5 g x1 post n x3_7 x4_8 A_6 L)))))))))
def v_X6_listOf (g : Nat) (x1 : Int32) (A : xM) (L : xL) (post : Int32 → xM → xL → Prop) : Prop := ∃ k9 : Nat, v_X6_listOf_5 g x1 post k9 (0 : Int32) (1 : Int32) A L
section MECH
variable {p : Program} {l : Launch} {e : Env} {s : State} {m : MethodId} {args : Array Value} {below : List Frame} {meth : Method} {c : Code} {G : xGt}
set_option maxHeartbeats 4000000 in
set_option maxRecDepth 100000 in
theorem t_X6_listOf_5 (C0 : xC p s m args meth c G cX6_listOf (some .int) wsX6_listOf RX6 5) {g : Nat} (hg : xIA g 3001) {post : Int32 → xM → xL → Prop} {x1 : Int32} : ∀ (n : Nat) (x3 : Int32) (x4 : Int32) (A : xM) (L : xL) (H : Heap) (locs : List Loc) (ls : Array Slot), xW G s.heap A L H locs → lv_has ls 5 [(0, .ref (xad G 23)), (1, .int x1), (2, .ref (xad G g)), (3, .int x3), (4, .int x4)] → v_X6_listOf_5 g x1 post n x3 x4 A L → W p l e rX6_listOf s m args below meth c H locs 0 0 (MQ below (xQi G post) args s 0 0 (xAf G)) (F0 m 5 ls []) := by
  obtain ⟨hx, hb, hr, hts, hown, hml, hlocks, hG⟩ := id C0
  intro n
  induction n with
  | zero => intro x3 x4 A L H locs ls hw hl h; exact (show False from h).elim
  | succ n ih =>
    intro x3 x4 A L H locs ls hw hl h
    unfold v_X6_listOf_5 at h
    refine lv_iload hx hb dX6_listOf_5 (lv_at hl 4 rfl) ?_
    refine lv_sipush (v := 3000) hx hb dX6_listOf_7 (by decide) ?_
    refine lv_icmp_gt (tgt := 45) hx hb dX6_listOf_10 (by decide) (fun c_1 => ?_) (fun c_1 => ?_)
    · have h := h.1 c_1
      refine lv_iload_n hx hb dX6_listOf_45 rfl (lv_at hl 3 rfl) ?_
      exact x_iret hx hb hr hlocks hG hw h dX6_listOf_46
    · have h := h.2 c_1
      refine lv_aload_n hx hb dX6_listOf_13 rfl (lv_at hl 0 rfl) ?_
      refine x_get (C := RX6) (T := TX6) (N := 20) hx hb hts inX6_listOf_X6 hown hG hw xO23 rfl 10 (by decide) (hts (.fieldLink RX6 30 "SixNumbersModel" "ways" "[J") (List.mem_of_getElem? (i := 1) rfl)) (fun _ h9 => h9) (v := .ref (xad G 28)) rfl dX6_listOf_14 ?_
      refine lv_sipush (v := 3001) hx hb dX6_listOf_17 (by decide) ?_
      refine lv_iload_n hx hb dX6_listOf_20 rfl (lv_at hl 1 rfl) ?_
      refine lv_imul hx hb dX6_listOf_21 ?_
      refine lv_iload hx hb dX6_listOf_22 (lv_at hl 4 rfl) ?_
      refine lv_iadd hx hb dX6_listOf_24 ?_
      have i_2 := h.1
      have h := h.2
      refine x_lald hx hb hG hw xb28 i_2 dX6_listOf_25 ?_
      refine lv_lconst (v := 0) hx hb dX6_listOf_26 (by decide) ?_
      refine W.lcmp hx hb dX6_listOf_27 ?_
      refine lv_if_le (tgt := 39) hx hb dX6_listOf_28 (by decide) (fun c_3 => ?_) (fun c_3 => ?_)
      · have h := h.1 c_3
        obtain ⟨x4_4, ex4_4⟩ : ∃ y : Int32, y = x4 + (1 : Int32) := ⟨_, rfl⟩
        have h := h x4_4 ex4_4
        refine lv_iinc (v := x4_4) (lv' := [(4, .int x4_4), (0, .ref (xad G 23)), (1, .int x1), (2, .ref (xad G g)), (3, .int x3)]) hx hb dX6_listOf_39 hl (k := 4) rfl (by rw [ex4_4]; rfl) (by decide) rfl (fun ls hl => ?_)
        refine lv_goto (tgt := 5) hx hb dX6_listOf_42 (by decide) ?_
        exact ih x3 x4_4 A L _ _ _ hw (lv_sub hl [1, 2, 3, 4, 0] rfl) h
      · have h := h.2 c_3
        refine lv_aload_n hx hb dX6_listOf_31 rfl (lv_at hl 2 rfl) ?_
        refine lv_iload_n hx hb dX6_listOf_32 rfl (lv_at hl 3 rfl) ?_
        refine lv_iload hx hb dX6_listOf_33 (lv_at hl 4 rfl) ?_
        have i_5 := h.1
        have h := h.2
        refine x_iast hx hb hG hw hg i_5 dX6_listOf_35 (fun A_6 H locs eA_6 hw => ?_)
        have h := h A_6 eA_6
        obtain ⟨x3_7, ex3_7⟩ : ∃ y : Int32, y = x3 + (1 : Int32) := ⟨_, rfl⟩
        have h := h x3_7 ex3_7
        refine lv_iinc (v := x3_7) (lv' := [(3, .int x3_7), (0, .ref (xad G 23)), (1, .int x1), (2, .ref (xad G g)), (4, .int x4)]) hx hb dX6_listOf_36 hl (k := 3) rfl (by rw [ex3_7]; rfl) (by decide) rfl (fun ls hl => ?_)
        obtain ⟨x4_8, ex4_8⟩ : ∃ y : Int32, y = x4 + (1 : Int32) := ⟨_, rfl⟩
        have h := h x4_8 ex4_8
        refine lv_iinc (v := x4_8) (lv' := [(4, .int x4_8), (3, .int x3_7), (0, .ref (xad G 23)), (1, .int x1), (2, .ref (xad G g))]) hx hb dX6_listOf_39 hl (k := 4) rfl (by rw [ex4_8]; rfl) (by decide) rfl (fun ls hl => ?_)
        refine lv_goto (tgt := 5) hx hb dX6_listOf_42 (by decide) ?_
        exact ih x3_7 x4_8 A_6 L _ _ _ hw (lv_sub hl [2, 3, 4, 1, 0] rfl) h
set_option maxHeartbeats 4000000 in
set_option maxRecDepth 100000 in
theorem t_X6_listOf_0 (C0 : xC p s m args meth c G cX6_listOf (some .int) wsX6_listOf RX6 5) {g : Nat} (hg : xIA g 3001) {post : Int32 → xM → xL → Prop} {x1 : Int32} {A : xM} {L : xL} {H : Heap} {locs : List Loc} {ls : Array Slot} (hw : xW G s.heap A L H locs) (hl : lv_has ls 5 [(0, .ref (xad G 23)), (1, .int x1), (2, .ref (xad G g))]) (h : v_X6_listOf g x1 A L post) : W p l e rX6_listOf s m args below meth c H locs 0 0 (MQ below (xQi G post) args s 0 0 (xAf G)) (F0 m 0 ls []) := by
  obtain ⟨hx, hb, hr, hts, hown, hml, hlocks, hG⟩ := id C0
  unfold v_X6_listOf at h
  refine lv_iconst (v := 0) hx hb dX6_listOf_0 (by decide) ?_
  refine lv_istore_n (lv' := [(3, .int (0 : Int32)), (0, .ref (xad G 23)), (1, .int x1), (2, .ref (xad G g))]) hx hb dX6_listOf_1 rfl hl (by decide) rfl (fun ls hl => ?_)
  refine lv_iconst (v := 1) hx hb dX6_listOf_2 (by decide) ?_
  refine lv_istore (lv' := [(4, .int (1 : Int32)), (3, .int (0 : Int32)), (0, .ref (xad G 23)), (1, .int x1), (2, .ref (xad G g))]) hx hb dX6_listOf_3 hl (by decide) rfl (fun ls hl => ?_)
  obtain ⟨n9, h⟩ := h
  exact t_X6_listOf_5 C0 hg n9 (0 : Int32) (1 : Int32) A L _ _ _ hw (lv_sub hl [2, 3, 4, 1, 0] rfl) h
theorem c_X6_listOf {l : Launch} {G : xGt} {g : Nat} (hg : xIA g 3001) {x1 : Int32} {A : xM} {L : xL} {post : Int32 → xM → xL → Prop} (h : v_X6_listOf g x1 A L post) : Met l yX6_listOf wsX6_listOf rX6_listOf (va_Pc [.ref (xad G 23), .int x1, .ref (xad G g)] (xPre G A L)) (xQi G post) 0 0 (xAf G) :=
  x_met RX6 rfl (by decide) rfl (Nat.le_of_ble_eq_true rfl) (fun p e s m below meth c ls C0 hw hl => t_X6_listOf_0 C0 hg hw hl h)
end MECH
abbrev rX6_add : Room := { frames := 0, cells := 0, slots := 0, locals := 0 }
theorem inX6_add_X6 : ∀ w ∈ wsX60, w ∈ wsX6_add := fun w h => List.mem_cons_of_mem _ (List.mem_append_right _ h)
def v_X6_add (x1 : Int32) (y2 : Int64) (y4 : Int64) (A : xM) (L : xL) (post : xM → xL → Prop) : Prop := (0 < (lg_cmp y2 ((A 23 3)).toInt64) → (post A L)) ∧ (¬ 0 < (lg_cmp y2 ((A 23 3)).toInt64) → (vp_in (((3001 : Int32) * x1) + (y2).toInt32) 192064 ∧ (∀ L_3 : xL, L_3 = xul L 28 (((3001 : Int32) * x1) + (y2).toInt32).toNatClampNeg ((L 28 (((3001 : Int32) * x1) + (y2).toInt32).toNatClampNeg) + y4) → (post A L_3))))
section MECH
variable {p : Program} {l : Launch} {e : Env} {s : State} {m : MethodId} {args : Array Value} {below : List Frame} {meth : Method} {c : Code} {G : xGt}
set_option maxHeartbeats 4000000 in
set_option maxRecDepth 100000 in
theorem t_X6_add_0 (C0 : xC p s m args meth c G cX6_add none wsX6_add RX6 6) {post : xM → xL → Prop} {x1 : Int32} {y2 : Int64} {y4 : Int64} {A : xM} {L : xL} {H : Heap} {locs : List Loc} {ls : Array Slot} (hw : xW G s.heap A L H locs) (hl : lv_has ls 6 [(0, .ref (xad G 23)), (1, .int x1), (2, .long y2), (4, .long y4)]) (h : v_X6_add x1 y2 y4 A L post) : W p l e rX6_add s m args below meth c H locs 0 0 (MQ below (xQv G post) args s 0 0 (xAf G)) (F0 m 0 ls []) := by
  obtain ⟨hx, hb, hr, hts, hown, hml, hlocks, hG⟩ := id C0
  unfold v_X6_add at h
  refine lv_lload_n hx hb dX6_add_0 rfl (lv_at hl 2 rfl) ?_
  refine lv_aload_n hx hb dX6_add_1 rfl (lv_at hl 0 rfl) ?_
  refine x_get (C := RX6) (T := TX6) (N := 20) hx hb hts inX6_add_X6 hown hG hw xO23 rfl 3 (by decide) (hts (.fieldLink RX6 17 "SixNumbersModel" "most" "I") (List.mem_of_getElem? (i := 1) rfl)) (fun _ h9 => h9) (v := .int (A 23 3)) rfl dX6_add_2 ?_
  refine lv_i2l hx hb dX6_add_5 rfl ?_
  refine W.lcmp hx hb dX6_add_6 ?_
  refine lv_if_gt (tgt := 28) hx hb dX6_add_7 (by decide) (fun c_1 => ?_) (fun c_1 => ?_)
  · have h := h.1 c_1
    exact x_vret hx hb hr hlocks hG hw h dX6_add_28
  · have h := h.2 c_1
    refine lv_aload_n hx hb dX6_add_10 rfl (lv_at hl 0 rfl) ?_
    refine x_get (C := RX6) (T := TX6) (N := 20) hx hb hts inX6_add_X6 hown hG hw xO23 rfl 10 (by decide) (hts (.fieldLink RX6 30 "SixNumbersModel" "ways" "[J") (List.mem_of_getElem? (i := 2) rfl)) (fun _ h9 => h9) (v := .ref (xad G 28)) rfl dX6_add_11 ?_
    refine lv_sipush (v := 3001) hx hb dX6_add_14 (by decide) ?_
    refine lv_iload_n hx hb dX6_add_17 rfl (lv_at hl 1 rfl) ?_
    refine lv_imul hx hb dX6_add_18 ?_
    refine lv_lload_n hx hb dX6_add_19 rfl (lv_at hl 2 rfl) ?_
    refine lv_l2i hx hb dX6_add_20 rfl ?_
    refine lv_iadd hx hb dX6_add_21 ?_
    refine lv_dup2_11 hx hb dX6_add_22 rfl rfl ?_
    have i_2 := h.1
    have h := h.2
    refine x_lald hx hb hG hw xb28 i_2 dX6_add_23 ?_
    refine lv_lload hx hb dX6_add_24 (lv_at hl 3 rfl) ?_
    refine lv_ladd hx hb dX6_add_26 ?_
    refine x_last hx hb hG hw xb28 i_2 dX6_add_27 (fun L_3 H locs eL_3 hw => ?_)
    have h := h L_3 eL_3
    exact x_vret hx hb hr hlocks hG hw h dX6_add_28
theorem c_X6_add {l : Launch} {G : xGt} {x1 : Int32} {y2 : Int64} {y4 : Int64} {A : xM} {L : xL} {post : xM → xL → Prop} (h : v_X6_add x1 y2 y4 A L post) : Met l yX6_add wsX6_add rX6_add (va_Pc [.ref (xad G 23), .int x1, .long y2, .long y4] (xPre G A L)) (xQv G post) 0 0 (xAf G) :=
  x_met RX6 rfl (by decide) rfl (Nat.le_of_ble_eq_true rfl) (fun p e s m below meth c ls C0 hw hl => t_X6_add_0 C0 hw hl h)
end MECH
