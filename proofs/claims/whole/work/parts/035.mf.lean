abbrev rX5_item : Room := { frames := 2, cells := 0, slots := 0, locals := 46 }
theorem inX5_item_X1 : ∀ w ∈ wsX10, w ∈ wsX5_item := fun w h => List.mem_cons_of_mem _ (List.mem_append_right _ h)
theorem inX5_item_X5 : ∀ w ∈ wsX50, w ∈ wsX5_item := fun w h => List.mem_cons_of_mem _ (List.mem_append_left _ (List.mem_append_right _ h))
def v_X5_item (x1 : Int32) (A : xM) (L : xL) (post : Int32 → xM → xL → Prop) : Prop := v_X5_isOutside x1 (1 : Int32) (100 : Int32) (fun (r_1 : Int32) => ((r_1 = 0 → (((A (2 + 6 * 0) 6) < (6 : Int32) → (∀ x2_4 : Int32, x2_4 = (A (2 + 6 * 0) 6) → (v_X1_place 0 x2_4 x1 A L (fun (A_5 : xM) (L_6 : xL) => (post x2_4 A_5 L_6))))) ∧ (¬ (A (2 + 6 * 0) 6) < (6 : Int32) → (post (-1004 : Int32) A L)))) ∧ (¬ r_1 = 0 → (post (-1002 : Int32) A L))))
section MECH
variable {p : Program} {l : Launch} {e : Env} {s : State} {m : MethodId} {args : Array Value} {below : List Frame} {meth : Method} {c : Code} {G : xGt}
set_option maxHeartbeats 4000000 in
set_option maxRecDepth 100000 in
theorem t_X5_item_0 (C0 : xC p s m args meth c G cX5_item (some .int) wsX5_item RX5 3) {post : Int32 → xM → xL → Prop} {x1 : Int32} {A : xM} {L : xL} {H : Heap} {locs : List Loc} {ls : Array Slot} (hw : xW G s.heap A L H locs) (hl : lv_has ls 3 [(0, .ref (xad G 0)), (1, .int x1)]) (h : v_X5_item x1 A L post) : W p l e rX5_item s m args below meth c H locs 0 0 (MQ below (xQi G post) args s 0 0 (xAf G)) (F0 m 0 ls []) := by
  obtain ⟨hx, hb, hr, hts, hown, hml, hlocks, hG⟩ := id C0
  unfold v_X5_item at h
  refine lv_iload_n hx hb dX5_item_0 rfl (lv_at hl 1 rfl) ?_
  refine lv_iconst (v := 1) hx hb dX5_item_1 (by decide) ?_
  refine lv_bipush (v := 100) hx hb dX5_item_2 (by decide) ?_
  refine x_calli hG hw (va_runS (As := [.int x1, .int (1 : Int32), .int (100 : Int32)]) (rest := []) ⟨hx, hb, hml, hown, hts⟩ (c_X5_isOutside (l := l) (G := G) h) (va_cwS 3 hts gX5_item_X5_isOutside rfl rfl rfl (by decide +kernel) ⟨Nat.le_of_ble_eq_true rfl, Nat.le_of_ble_eq_true rfl⟩) (x_preS hG hw) rfl rfl hl.1 rfl (lv_room (Nat.le_of_ble_eq_true rfl)) dX5_item_4 ⟨Nat.le_of_ble_eq_true rfl, Nat.le_of_ble_eq_true rfl⟩) (fun r_1 A9 L9 H locs hw h => ?_)
  rw [h.2.1, h.2.2] at hw
  have h := h.1
  refine lv_if_eq (tgt := 14) hx hb dX5_item_7 (by decide) (fun c_2 => ?_) (fun c_2 => ?_)
  · have h := h.1 c_2
    refine lv_aload_n hx hb dX5_item_14 rfl (lv_at hl 0 rfl) ?_
    refine x_get (C := RX5) (T := TX5) (N := 6) hx hb hts inX5_item_X5 hown hG hw xO0 rfl 1 (by decide) (hts (.fieldLink RX5 21 "SixNumbers" "heap" "LSixNumbers$Heap;") (List.mem_of_getElem? (i := 1) rfl)) (fun _ h9 => h9) (v := .ref (xad G (2 + 6 * 0))) rfl dX5_item_15 ?_
    refine x_getN (C := RX1) (T := TX1) (N := 8) hx hb hts inX5_item_X1 hown hG hw (xOh (q := 0) (by decide)) rfl 6 (by decide) (va_Nw.use rfl (hG.2.2.2.1 _ (List.mem_of_getElem? (i := 0) rfl))) (fun _ h9 => h9) (v := .int (A (2 + 6 * 0) 6)) (xf_v6 (show 0 < 2 by decide)) dX5_item_18 ?_
    refine lv_bipush (v := 6) hx hb dX5_item_21 (by decide) ?_
    refine lv_icmp_lt (tgt := 30) hx hb dX5_item_23 (by decide) (fun c_3 => ?_) (fun c_3 => ?_)
    · have h := h.1 c_3
      refine lv_aload_n hx hb dX5_item_30 rfl (lv_at hl 0 rfl) ?_
      refine x_get (C := RX5) (T := TX5) (N := 6) hx hb hts inX5_item_X5 hown hG hw xO0 rfl 1 (by decide) (hts (.fieldLink RX5 21 "SixNumbers" "heap" "LSixNumbers$Heap;") (List.mem_of_getElem? (i := 1) rfl)) (fun _ h9 => h9) (v := .ref (xad G (2 + 6 * 0))) rfl dX5_item_31 ?_
      refine x_getN (C := RX1) (T := TX1) (N := 8) hx hb hts inX5_item_X1 hown hG hw (xOh (q := 0) (by decide)) rfl 6 (by decide) (va_Nw.use rfl (hG.2.2.2.1 _ (List.mem_of_getElem? (i := 0) rfl))) (fun _ h9 => h9) (v := .int (A (2 + 6 * 0) 6)) (xf_v6 (show 0 < 2 by decide)) dX5_item_34 ?_
      refine lv_topi (fun x2_4 ex2_4 => ?_)
      have h := h x2_4 ex2_4
      refine lv_istore_n (lv' := [(2, .int x2_4), (0, .ref (xad G 0)), (1, .int x1)]) hx hb dX5_item_37 rfl hl (by decide) rfl (fun ls hl => ?_)
      refine lv_aload_n hx hb dX5_item_38 rfl (lv_at hl 1 rfl) ?_
      refine x_get (C := RX5) (T := TX5) (N := 6) hx hb hts inX5_item_X5 hown hG hw xO0 rfl 1 (by decide) (hts (.fieldLink RX5 21 "SixNumbers" "heap" "LSixNumbers$Heap;") (List.mem_of_getElem? (i := 1) rfl)) (fun _ h9 => h9) (v := .ref (xad G (2 + 6 * 0))) rfl dX5_item_39 ?_
      refine lv_iload_n hx hb dX5_item_42 rfl (lv_at hl 0 rfl) ?_
      refine lv_iload_n hx hb dX5_item_43 rfl (lv_at hl 2 rfl) ?_
      refine x_callv hG hw (va_runV (As := [.int x2_4, .int x1]) (rest := []) ⟨hx, hb, hml, hown, hts⟩ (c_X1_place (l := l) (G := G) (show 0 < 2 by decide) h) (cwV 2 hts gX5_item_X1_place rfl rfl rfl (by decide +kernel) ⟨Nat.le_of_ble_eq_true rfl, Nat.le_of_ble_eq_true rfl⟩) (x_preV hG hw (xOh (q := 0) (by decide)) rfl) rfl rfl hl.1 rfl (lv_room (Nat.le_of_ble_eq_true rfl)) dX5_item_44 ⟨Nat.le_of_ble_eq_true rfl, Nat.le_of_ble_eq_true rfl⟩) (fun A_5 L_6 H locs hw h => ?_)
      refine lv_iload_n hx hb dX5_item_47 rfl (lv_at hl 0 rfl) ?_
      exact x_iret hx hb hr hlocks hG hw h dX5_item_48
    · have h := h.2 c_3
      refine lv_sipush (v := (-1004)) hx hb dX5_item_26 (by decide) ?_
      exact x_iret hx hb hr hlocks hG hw h dX5_item_29
  · have h := h.2 c_2
    refine lv_sipush (v := (-1002)) hx hb dX5_item_10 (by decide) ?_
    exact x_iret hx hb hr hlocks hG hw h dX5_item_13
theorem c_X5_item {l : Launch} {G : xGt} {x1 : Int32} {A : xM} {L : xL} {post : Int32 → xM → xL → Prop} (h : v_X5_item x1 A L post) : Met l yX5_item wsX5_item rX5_item (va_Pc [.ref (xad G 0), .int x1] (xPre G A L)) (xQi G post) 0 0 (xAf G) :=
  x_met RX5 rfl (by decide) rfl (Nat.le_of_ble_eq_true rfl) (fun p e s m below meth c ls C0 hw hl => t_X5_item_0 C0 hw hl h)
end MECH
abbrev rX5_set : Room := { frames := 2, cells := 0, slots := 0, locals := 46 }
theorem inX5_set_X1 : ∀ w ∈ wsX10, w ∈ wsX5_set := fun w h => List.mem_cons_of_mem _ (List.mem_append_right _ h)
theorem inX5_set_X5 : ∀ w ∈ wsX50, w ∈ wsX5_set := fun w h => List.mem_cons_of_mem _ (List.mem_append_left _ (List.mem_append_right _ h))
def v_X5_set (x1 : Int32) (x2 : Int32) (A : xM) (L : xL) (post : Int32 → xM → xL → Prop) : Prop := v_X5_isOutside x1 (0 : Int32) ((A (2 + 6 * 0) 6) - (1 : Int32)) (fun (r_1 : Int32) => ((r_1 = 0 → (v_X5_isOutside x2 (1 : Int32) (100 : Int32) (fun (r_3 : Int32) => ((r_3 = 0 → (v_X1_itemAt 0 x1 A L (fun (r_5 : Int32) => (v_X1_place 0 x1 x2 A L (fun (A_6 : xM) (L_7 : xL) => (post r_5 A_6 L_7)))))) ∧ (¬ r_3 = 0 → (post (-1002 : Int32) A L)))))) ∧ (¬ r_1 = 0 → (post (-1001 : Int32) A L))))
section MECH
variable {p : Program} {l : Launch} {e : Env} {s : State} {m : MethodId} {args : Array Value} {below : List Frame} {meth : Method} {c : Code} {G : xGt}
set_option maxHeartbeats 4000000 in
set_option maxRecDepth 100000 in
theorem t_X5_set_0 (C0 : xC p s m args meth c G cX5_set (some .int) wsX5_set RX5 4) {post : Int32 → xM → xL → Prop} {x1 : Int32} {x2 : Int32} {A : xM} {L : xL} {H : Heap} {locs : List Loc} {ls : Array Slot} (hw : xW G s.heap A L H locs) (hl : lv_has ls 4 [(0, .ref (xad G 0)), (1, .int x1), (2, .int x2)]) (h : v_X5_set x1 x2 A L post) : W p l e rX5_set s m args below meth c H locs 0 0 (MQ below (xQi G post) args s 0 0 (xAf G)) (F0 m 0 ls []) := by
  obtain ⟨hx, hb, hr, hts, hown, hml, hlocks, hG⟩ := id C0
  unfold v_X5_set at h
  refine lv_iload_n hx hb dX5_set_0 rfl (lv_at hl 1 rfl) ?_
  refine lv_iconst (v := 0) hx hb dX5_set_1 (by decide) ?_
  refine lv_aload_n hx hb dX5_set_2 rfl (lv_at hl 0 rfl) ?_
  refine x_get (C := RX5) (T := TX5) (N := 6) hx hb hts inX5_set_X5 hown hG hw xO0 rfl 1 (by decide) (hts (.fieldLink RX5 21 "SixNumbers" "heap" "LSixNumbers$Heap;") (List.mem_of_getElem? (i := 1) rfl)) (fun _ h9 => h9) (v := .ref (xad G (2 + 6 * 0))) rfl dX5_set_3 ?_
  refine x_getN (C := RX1) (T := TX1) (N := 8) hx hb hts inX5_set_X1 hown hG hw (xOh (q := 0) (by decide)) rfl 6 (by decide) (va_Nw.use rfl (hG.2.2.2.1 _ (List.mem_of_getElem? (i := 0) rfl))) (fun _ h9 => h9) (v := .int (A (2 + 6 * 0) 6)) (xf_v6 (show 0 < 2 by decide)) dX5_set_6 ?_
  refine lv_iconst (v := 1) hx hb dX5_set_9 (by decide) ?_
  refine lv_isub hx hb dX5_set_10 ?_
  refine x_calli hG hw (va_runS (As := [.int x1, .int (0 : Int32), .int ((A (2 + 6 * 0) 6) - (1 : Int32))]) (rest := []) ⟨hx, hb, hml, hown, hts⟩ (c_X5_isOutside (l := l) (G := G) h) (va_cwS 3 hts gX5_set_X5_isOutside rfl rfl rfl (by decide +kernel) ⟨Nat.le_of_ble_eq_true rfl, Nat.le_of_ble_eq_true rfl⟩) (x_preS hG hw) rfl rfl hl.1 rfl (lv_room (Nat.le_of_ble_eq_true rfl)) dX5_set_11 ⟨Nat.le_of_ble_eq_true rfl, Nat.le_of_ble_eq_true rfl⟩) (fun r_1 A9 L9 H locs hw h => ?_)
  rw [h.2.1, h.2.2] at hw
  have h := h.1
  refine lv_if_eq (tgt := 21) hx hb dX5_set_14 (by decide) (fun c_2 => ?_) (fun c_2 => ?_)
  · have h := h.1 c_2
    refine lv_iload_n hx hb dX5_set_21 rfl (lv_at hl 2 rfl) ?_
    refine lv_iconst (v := 1) hx hb dX5_set_22 (by decide) ?_
    refine lv_bipush (v := 100) hx hb dX5_set_23 (by decide) ?_
    refine x_calli hG hw (va_runS (As := [.int x2, .int (1 : Int32), .int (100 : Int32)]) (rest := []) ⟨hx, hb, hml, hown, hts⟩ (c_X5_isOutside (l := l) (G := G) h) (va_cwS 3 hts gX5_set_X5_isOutside rfl rfl rfl (by decide +kernel) ⟨Nat.le_of_ble_eq_true rfl, Nat.le_of_ble_eq_true rfl⟩) (x_preS hG hw) rfl rfl hl.1 rfl (lv_room (Nat.le_of_ble_eq_true rfl)) dX5_set_25 ⟨Nat.le_of_ble_eq_true rfl, Nat.le_of_ble_eq_true rfl⟩) (fun r_3 A9 L9 H locs hw h => ?_)
    rw [h.2.1, h.2.2] at hw
    have h := h.1
    refine lv_if_eq (tgt := 35) hx hb dX5_set_28 (by decide) (fun c_4 => ?_) (fun c_4 => ?_)
    · have h := h.1 c_4
      refine lv_aload_n hx hb dX5_set_35 rfl (lv_at hl 0 rfl) ?_
      refine x_get (C := RX5) (T := TX5) (N := 6) hx hb hts inX5_set_X5 hown hG hw xO0 rfl 1 (by decide) (hts (.fieldLink RX5 21 "SixNumbers" "heap" "LSixNumbers$Heap;") (List.mem_of_getElem? (i := 1) rfl)) (fun _ h9 => h9) (v := .ref (xad G (2 + 6 * 0))) rfl dX5_set_36 ?_
      refine lv_iload_n hx hb dX5_set_39 rfl (lv_at hl 1 rfl) ?_
      refine x_calli hG hw (va_runV (As := [.int x1]) (rest := []) ⟨hx, hb, hml, hown, hts⟩ (c_X1_itemAt (l := l) (G := G) (show 0 < 2 by decide) h) (cwV 1 hts gX5_set_X1_itemAt rfl rfl rfl (by decide +kernel) ⟨Nat.le_of_ble_eq_true rfl, Nat.le_of_ble_eq_true rfl⟩) (x_preV hG hw (xOh (q := 0) (by decide)) rfl) rfl rfl hl.1 rfl (lv_room (Nat.le_of_ble_eq_true rfl)) dX5_set_40 ⟨Nat.le_of_ble_eq_true rfl, Nat.le_of_ble_eq_true rfl⟩) (fun r_5 A9 L9 H locs hw h => ?_)
      rw [h.2.1, h.2.2] at hw
      have h := h.1
      refine lv_istore_n (lv' := [(3, .int r_5), (0, .ref (xad G 0)), (1, .int x1), (2, .int x2)]) hx hb dX5_set_43 rfl hl (by decide) rfl (fun ls hl => ?_)
      refine lv_aload_n hx hb dX5_set_44 rfl (lv_at hl 1 rfl) ?_
      refine x_get (C := RX5) (T := TX5) (N := 6) hx hb hts inX5_set_X5 hown hG hw xO0 rfl 1 (by decide) (hts (.fieldLink RX5 21 "SixNumbers" "heap" "LSixNumbers$Heap;") (List.mem_of_getElem? (i := 1) rfl)) (fun _ h9 => h9) (v := .ref (xad G (2 + 6 * 0))) rfl dX5_set_45 ?_
      refine lv_iload_n hx hb dX5_set_48 rfl (lv_at hl 2 rfl) ?_
      refine lv_iload_n hx hb dX5_set_49 rfl (lv_at hl 3 rfl) ?_
      refine x_callv hG hw (va_runV (As := [.int x1, .int x2]) (rest := []) ⟨hx, hb, hml, hown, hts⟩ (c_X1_place (l := l) (G := G) (show 0 < 2 by decide) h) (cwV 2 hts gX5_set_X1_place rfl rfl rfl (by decide +kernel) ⟨Nat.le_of_ble_eq_true rfl, Nat.le_of_ble_eq_true rfl⟩) (x_preV hG hw (xOh (q := 0) (by decide)) rfl) rfl rfl hl.1 rfl (lv_room (Nat.le_of_ble_eq_true rfl)) dX5_set_50 ⟨Nat.le_of_ble_eq_true rfl, Nat.le_of_ble_eq_true rfl⟩) (fun A_6 L_7 H locs hw h => ?_)
      refine lv_iload_n hx hb dX5_set_53 rfl (lv_at hl 0 rfl) ?_
      exact x_iret hx hb hr hlocks hG hw h dX5_set_54
    · have h := h.2 c_4
      refine lv_sipush (v := (-1002)) hx hb dX5_set_31 (by decide) ?_
      exact x_iret hx hb hr hlocks hG hw h dX5_set_34
  · have h := h.2 c_2
    refine lv_sipush (v := (-1001)) hx hb dX5_set_17 (by decide) ?_
    exact x_iret hx hb hr hlocks hG hw h dX5_set_20
theorem c_X5_set {l : Launch} {G : xGt} {x1 : Int32} {x2 : Int32} {A : xM} {L : xL} {post : Int32 → xM → xL → Prop} (h : v_X5_set x1 x2 A L post) : Met l yX5_set wsX5_set rX5_set (va_Pc [.ref (xad G 0), .int x1, .int x2] (xPre G A L)) (xQi G post) 0 0 (xAf G) :=
  x_met RX5 rfl (by decide) rfl (Nat.le_of_ble_eq_true rfl) (fun p e s m below meth c ls C0 hw hl => t_X5_set_0 C0 hw hl h)
end MECH
abbrev rX5_cut : Room := { frames := 2, cells := 0, slots := 0, locals := 46 }
theorem inX5_cut_X1 : ∀ w ∈ wsX10, w ∈ wsX5_cut := fun w h => List.mem_cons_of_mem _ (List.mem_append_right _ h)
theorem inX5_cut_X5 : ∀ w ∈ wsX50, w ∈ wsX5_cut := fun w h => List.mem_cons_of_mem _ (List.mem_append_left _ (List.mem_append_right _ h))
def v_X5_cut (x1 : Int32) (A : xM) (L : xL) (post : Int32 → xM → xL → Prop) : Prop := v_X5_isOutside x1 (0 : Int32) (A (2 + 6 * 0) 6) (fun (r_1 : Int32) => ((r_1 = 0 → (∀ x2_3 : Int32, x2_3 = ((A (2 + 6 * 0) 6) - x1) → (v_X1_shorten 0 x1 A L (fun (A_4 : xM) (L_5 : xL) => (post x2_3 A_4 L_5))))) ∧ (¬ r_1 = 0 → (post (-1002 : Int32) A L))))
section MECH
variable {p : Program} {l : Launch} {e : Env} {s : State} {m : MethodId} {args : Array Value} {below : List Frame} {meth : Method} {c : Code} {G : xGt}
set_option maxHeartbeats 4000000 in
set_option maxRecDepth 100000 in
theorem t_X5_cut_0 (C0 : xC p s m args meth c G cX5_cut (some .int) wsX5_cut RX5 3) {post : Int32 → xM → xL → Prop} {x1 : Int32} {A : xM} {L : xL} {H : Heap} {locs : List Loc} {ls : Array Slot} (hw : xW G s.heap A L H locs) (hl : lv_has ls 3 [(0, .ref (xad G 0)), (1, .int x1)]) (h : v_X5_cut x1 A L post) : W p l e rX5_cut s m args below meth c H locs 0 0 (MQ below (xQi G post) args s 0 0 (xAf G)) (F0 m 0 ls []) := by
  obtain ⟨hx, hb, hr, hts, hown, hml, hlocks, hG⟩ := id C0
  unfold v_X5_cut at h
  refine lv_iload_n hx hb dX5_cut_0 rfl (lv_at hl 1 rfl) ?_
  refine lv_iconst (v := 0) hx hb dX5_cut_1 (by decide) ?_
  refine lv_aload_n hx hb dX5_cut_2 rfl (lv_at hl 0 rfl) ?_
  refine x_get (C := RX5) (T := TX5) (N := 6) hx hb hts inX5_cut_X5 hown hG hw xO0 rfl 1 (by decide) (hts (.fieldLink RX5 21 "SixNumbers" "heap" "LSixNumbers$Heap;") (List.mem_of_getElem? (i := 1) rfl)) (fun _ h9 => h9) (v := .ref (xad G (2 + 6 * 0))) rfl dX5_cut_3 ?_
  refine x_getN (C := RX1) (T := TX1) (N := 8) hx hb hts inX5_cut_X1 hown hG hw (xOh (q := 0) (by decide)) rfl 6 (by decide) (va_Nw.use rfl (hG.2.2.2.1 _ (List.mem_of_getElem? (i := 0) rfl))) (fun _ h9 => h9) (v := .int (A (2 + 6 * 0) 6)) (xf_v6 (show 0 < 2 by decide)) dX5_cut_6 ?_
  refine x_calli hG hw (va_runS (As := [.int x1, .int (0 : Int32), .int (A (2 + 6 * 0) 6)]) (rest := []) ⟨hx, hb, hml, hown, hts⟩ (c_X5_isOutside (l := l) (G := G) h) (va_cwS 3 hts gX5_cut_X5_isOutside rfl rfl rfl (by decide +kernel) ⟨Nat.le_of_ble_eq_true rfl, Nat.le_of_ble_eq_true rfl⟩) (x_preS hG hw) rfl rfl hl.1 rfl (lv_room (Nat.le_of_ble_eq_true rfl)) dX5_cut_9 ⟨Nat.le_of_ble_eq_true rfl, Nat.le_of_ble_eq_true rfl⟩) (fun r_1 A9 L9 H locs hw h => ?_)
  rw [h.2.1, h.2.2] at hw
  have h := h.1
  refine lv_if_eq (tgt := 19) hx hb dX5_cut_12 (by decide) (fun c_2 => ?_) (fun c_2 => ?_)
  · have h := h.1 c_2
    refine lv_aload_n hx hb dX5_cut_19 rfl (lv_at hl 0 rfl) ?_
    refine x_get (C := RX5) (T := TX5) (N := 6) hx hb hts inX5_cut_X5 hown hG hw xO0 rfl 1 (by decide) (hts (.fieldLink RX5 21 "SixNumbers" "heap" "LSixNumbers$Heap;") (List.mem_of_getElem? (i := 1) rfl)) (fun _ h9 => h9) (v := .ref (xad G (2 + 6 * 0))) rfl dX5_cut_20 ?_
    refine x_getN (C := RX1) (T := TX1) (N := 8) hx hb hts inX5_cut_X1 hown hG hw (xOh (q := 0) (by decide)) rfl 6 (by decide) (va_Nw.use rfl (hG.2.2.2.1 _ (List.mem_of_getElem? (i := 0) rfl))) (fun _ h9 => h9) (v := .int (A (2 + 6 * 0) 6)) (xf_v6 (show 0 < 2 by decide)) dX5_cut_23 ?_
    refine lv_iload_n hx hb dX5_cut_26 rfl (lv_at hl 1 rfl) ?_
    refine lv_isub hx hb dX5_cut_27 ?_
    refine lv_topi (fun x2_3 ex2_3 => ?_)
    have h := h x2_3 ex2_3
    refine lv_istore_n (lv' := [(2, .int x2_3), (0, .ref (xad G 0)), (1, .int x1)]) hx hb dX5_cut_28 rfl hl (by decide) rfl (fun ls hl => ?_)
    refine lv_aload_n hx hb dX5_cut_29 rfl (lv_at hl 1 rfl) ?_
    refine x_get (C := RX5) (T := TX5) (N := 6) hx hb hts inX5_cut_X5 hown hG hw xO0 rfl 1 (by decide) (hts (.fieldLink RX5 21 "SixNumbers" "heap" "LSixNumbers$Heap;") (List.mem_of_getElem? (i := 1) rfl)) (fun _ h9 => h9) (v := .ref (xad G (2 + 6 * 0))) rfl dX5_cut_30 ?_
    refine lv_iload_n hx hb dX5_cut_33 rfl (lv_at hl 2 rfl) ?_
    refine x_callv hG hw (va_runV (As := [.int x1]) (rest := []) ⟨hx, hb, hml, hown, hts⟩ (c_X1_shorten (l := l) (G := G) (show 0 < 2 by decide) h) (cwV 1 hts gX5_cut_X1_shorten rfl rfl rfl (by decide +kernel) ⟨Nat.le_of_ble_eq_true rfl, Nat.le_of_ble_eq_true rfl⟩) (x_preV hG hw (xOh (q := 0) (by decide)) rfl) rfl rfl hl.1 rfl (lv_room (Nat.le_of_ble_eq_true rfl)) dX5_cut_34 ⟨Nat.le_of_ble_eq_true rfl, Nat.le_of_ble_eq_true rfl⟩) (fun A_4 L_5 H locs hw h => ?_)
    refine lv_iload_n hx hb dX5_cut_37 rfl (lv_at hl 0 rfl) ?_
    exact x_iret hx hb hr hlocks hG hw h dX5_cut_38
  · have h := h.2 c_2
    refine lv_sipush (v := (-1002)) hx hb dX5_cut_15 (by decide) ?_
    exact x_iret hx hb hr hlocks hG hw h dX5_cut_18
theorem c_X5_cut {l : Launch} {G : xGt} {x1 : Int32} {A : xM} {L : xL} {post : Int32 → xM → xL → Prop} (h : v_X5_cut x1 A L post) : Met l yX5_cut wsX5_cut rX5_cut (va_Pc [.ref (xad G 0), .int x1] (xPre G A L)) (xQi G post) 0 0 (xAf G) :=
  x_met RX5 rfl (by decide) rfl (Nat.le_of_ble_eq_true rfl) (fun p e s m below meth c ls C0 hw hl => t_X5_cut_0 C0 hw hl h)
end MECH
abbrev rX5_rule : Room := { frames := 1, cells := 0, slots := 0, locals := 22 }
theorem inX5_rule_X3 : ∀ w ∈ wsX30, w ∈ wsX5_rule := fun w h => List.mem_cons_of_mem _ (List.mem_append_left _ (List.mem_append_left _ (List.mem_append_right _ h)))
theorem inX5_rule_X5 : ∀ w ∈ wsX50, w ∈ wsX5_rule := fun w h => List.mem_cons_of_mem _ (List.mem_append_left _ (List.mem_append_left _ (List.mem_append_left _ (List.mem_append_right _ h))))
def v_X5_rule_86 (x4 : Int32) (A : xM) (L : xL) (post : Int32 → xM → xL → Prop) : Prop := v_X1_changeEverySet 0 A L (fun (A_1 : xM) (L_2 : xL) => (v_X1_changeEverySet 1 A_1 L_2 (fun (A_3 : xM) (L_4 : xL) => (v_X0_forgetTallies A_3 L_4 (fun (A_5 : xM) (L_6 : xL) => (post x4 A_5 L_6))))))
def v_X5_rule_61 (x1 : Int32) (x2 : Int32) (s0 : Int32) (A : xM) (L : xL) (post : Int32 → xM → xL → Prop) : Prop := (¬ x1 = 0 → (∀ A_2 : xM, A_2 = xu A 1 1 x2 → (v_X5_rule_86 s0 A_2 L post))) ∧ (x1 = 0 → (∀ A_3 : xM, A_3 = xu A 1 0 x2 → (v_X5_rule_86 s0 A_3 L post)))
def v_X5_rule_22 (x1 : Int32) (x2 : Int32) (s0 : Int32) (A : xM) (L : xL) (post : Int32 → xM → xL → Prop) : Prop := v_X5_isOutside x1 (0 : Int32) (1 : Int32) (fun (r_1 : Int32) => ((¬ r_1 = 0 → (post (-1002 : Int32) A L)) ∧ (r_1 = 0 → ((s0 = 0 → ((¬ x1 = 0 → (v_X5_rule_61 x1 x2 (A 1 1) A L post)) ∧ (x1 = 0 → (v_X5_rule_61 x1 x2 (A 1 0) A L post)))) ∧ (¬ s0 = 0 → (post (-1002 : Int32) A L))))))
def v_X5_rule (x1 : Int32) (x2 : Int32) (A : xM) (L : xL) (post : Int32 → xM → xL → Prop) : Prop := (¬ x1 = 0 → (v_X5_isOutside x2 (1 : Int32) (3000 : Int32) (fun (r_2 : Int32) => (v_X5_rule_22 x1 x2 r_2 A L post)))) ∧ (x1 = 0 → (v_X5_isOutside x2 (0 : Int32) (15 : Int32) (fun (r_3 : Int32) => (v_X5_rule_22 x1 x2 r_3 A L post))))
section MECH
variable {p : Program} {l : Launch} {e : Env} {s : State} {m : MethodId} {args : Array Value} {below : List Frame} {meth : Method} {c : Code} {G : xGt}
set_option maxHeartbeats 4000000 in
set_option maxRecDepth 100000 in
theorem t_X5_rule_86 (C0 : xC p s m args meth c G cX5_rule (some .int) wsX5_rule RX5 5) {post : Int32 → xM → xL → Prop} {x4 : Int32} {A : xM} {L : xL} {H : Heap} {locs : List Loc} {ls : Array Slot} (hw : xW G s.heap A L H locs) (hl : lv_has ls 5 [(0, .ref (xad G 0)), (4, .int x4)]) (h : v_X5_rule_86 x4 A L post) : W p l e rX5_rule s m args below meth c H locs 0 0 (MQ below (xQi G post) args s 0 0 (xAf G)) (F0 m 86 ls []) := by
  obtain ⟨hx, hb, hr, hts, hown, hml, hlocks, hG⟩ := id C0
  unfold v_X5_rule_86 at h
  refine lv_aload_n hx hb dX5_rule_86 rfl (lv_at hl 0 rfl) ?_
  refine x_get (C := RX5) (T := TX5) (N := 6) hx hb hts inX5_rule_X5 hown hG hw xO0 rfl 1 (by decide) (hts (.fieldLink RX5 21 "SixNumbers" "heap" "LSixNumbers$Heap;") (List.mem_of_getElem? (i := 2) rfl)) (fun _ h9 => h9) (v := .ref (xad G (2 + 6 * 0))) rfl dX5_rule_87 ?_
  refine x_callv hG hw (va_runV (As := []) (rest := []) ⟨hx, hb, hml, hown, hts⟩ (c_X1_changeEverySet (l := l) (G := G) (show 0 < 2 by decide) h) (cwV 0 hts gX5_rule_X1_changeEverySet rfl rfl rfl (by decide +kernel) ⟨Nat.le_of_ble_eq_true rfl, Nat.le_of_ble_eq_true rfl⟩) (x_preV hG hw (xOh (q := 0) (by decide)) rfl) rfl rfl hl.1 rfl (lv_room (Nat.le_of_ble_eq_true rfl)) dX5_rule_90 ⟨Nat.le_of_ble_eq_true rfl, Nat.le_of_ble_eq_true rfl⟩) (fun A_1 L_2 H locs hw h => ?_)
  refine lv_aload_n hx hb dX5_rule_93 rfl (lv_at hl 0 rfl) ?_
  refine x_get (C := RX5) (T := TX5) (N := 6) hx hb hts inX5_rule_X5 hown hG hw xO0 rfl 2 (by decide) (hts (.fieldLink RX5 25 "SixNumbers" "trial" "LSixNumbers$Heap;") (List.mem_of_getElem? (i := 3) rfl)) (fun _ h9 => h9) (v := .ref (xad G (2 + 6 * 1))) rfl dX5_rule_94 ?_
  refine x_callv hG hw (va_runV (As := []) (rest := []) ⟨hx, hb, hml, hown, hts⟩ (c_X1_changeEverySet (l := l) (G := G) (show 1 < 2 by decide) h) (cwV 0 hts gX5_rule_X1_changeEverySet rfl rfl rfl (by decide +kernel) ⟨Nat.le_of_ble_eq_true rfl, Nat.le_of_ble_eq_true rfl⟩) (x_preV hG hw (xOh (q := 1) (by decide)) rfl) rfl rfl hl.1 rfl (lv_room (Nat.le_of_ble_eq_true rfl)) dX5_rule_97 ⟨Nat.le_of_ble_eq_true rfl, Nat.le_of_ble_eq_true rfl⟩) (fun A_3 L_4 H locs hw h => ?_)
  refine lv_aload_n hx hb dX5_rule_100 rfl (lv_at hl 0 rfl) ?_
  refine x_get (C := RX5) (T := TX5) (N := 6) hx hb hts inX5_rule_X5 hown hG hw xO0 rfl 3 (by decide) (hts (.fieldLink RX5 33 "SixNumbers" "box" "LSixNumbers$Box;") (List.mem_of_getElem? (i := 4) rfl)) (fun _ h9 => h9) (v := .ref (xad G 14)) rfl dX5_rule_101 ?_
  refine x_callv hG hw (va_runV (As := []) (rest := []) ⟨hx, hb, hml, hown, hts⟩ (c_X0_forgetTallies (l := l) (G := G) h) (cwV 0 hts gX5_rule_X0_forgetTallies rfl rfl rfl (by decide +kernel) ⟨Nat.le_of_ble_eq_true rfl, Nat.le_of_ble_eq_true rfl⟩) (x_preV hG hw xO14 rfl) rfl rfl hl.1 rfl (lv_room (Nat.le_of_ble_eq_true rfl)) dX5_rule_104 ⟨Nat.le_of_ble_eq_true rfl, Nat.le_of_ble_eq_true rfl⟩) (fun A_5 L_6 H locs hw h => ?_)
  refine lv_iload hx hb dX5_rule_107 (lv_at hl 1 rfl) ?_
  exact x_iret hx hb hr hlocks hG hw h dX5_rule_109
set_option maxHeartbeats 4000000 in
set_option maxRecDepth 100000 in
theorem t_X5_rule_61 (C0 : xC p s m args meth c G cX5_rule (some .int) wsX5_rule RX5 5) {post : Int32 → xM → xL → Prop} {x1 : Int32} {x2 : Int32} {s0 : Int32} {A : xM} {L : xL} {H : Heap} {locs : List Loc} {ls : Array Slot} (hw : xW G s.heap A L H locs) (hl : lv_has ls 5 [(0, .ref (xad G 0)), (1, .int x1), (2, .int x2)]) (h : v_X5_rule_61 x1 x2 s0 A L post) : W p l e rX5_rule s m args below meth c H locs 0 0 (MQ below (xQi G post) args s 0 0 (xAf G)) (F0 m 61 ls [.int s0]) := by
  obtain ⟨hx, hb, hr, hts, hown, hml, hlocks, hG⟩ := id C0
  unfold v_X5_rule_61 at h
  refine lv_istore (lv' := [(4, .int s0), (0, .ref (xad G 0)), (1, .int x1), (2, .int x2)]) hx hb dX5_rule_61 hl (by decide) rfl (fun ls hl => ?_)
  refine lv_iload_n hx hb dX5_rule_63 rfl (lv_at hl 2 rfl) ?_
  refine lv_if_ne (tgt := 78) hx hb dX5_rule_64 (by decide) (fun c_1 => ?_) (fun c_1 => ?_)
  · have h := h.1 c_1
    refine lv_aload_n hx hb dX5_rule_78 rfl (lv_at hl 1 rfl) ?_
    refine x_get (C := RX5) (T := TX5) (N := 6) hx hb hts inX5_rule_X5 hown hG hw xO0 rfl 0 (by decide) (hts (.fieldLink RX5 10 "SixNumbers" "rules" "LSixNumbers$Rules;") (List.mem_of_getElem? (i := 1) rfl)) (fun _ h9 => h9) (v := .ref (xad G 1)) rfl dX5_rule_79 ?_
    refine lv_iload_n hx hb dX5_rule_82 rfl (lv_at hl 3 rfl) ?_
    refine x_putN (C := RX3) (T := TX3) (N := 2) hx hb hts inX5_rule_X3 tyX3 tyX3_ok nmX3 hown hG hw xO1 rfl 1 (by decide) (va_Nw.use rfl (hG.2.2.2.1 _ (List.mem_of_getElem? (i := 2) rfl))) (fun _ h9 => h9) rfl (ty := .int) (by decide +kernel) rfl rfl (Nat.le_of_ble_eq_true rfl) rfl dX5_rule_83 (fun A_2 H locs eA_2 hw => ?_)
    have h := h A_2 eA_2
    exact t_X5_rule_86 C0 hw (lv_sub hl [1, 0] rfl) h
  · have h := h.2 c_1
    refine lv_aload_n hx hb dX5_rule_67 rfl (lv_at hl 1 rfl) ?_
    refine x_get (C := RX5) (T := TX5) (N := 6) hx hb hts inX5_rule_X5 hown hG hw xO0 rfl 0 (by decide) (hts (.fieldLink RX5 10 "SixNumbers" "rules" "LSixNumbers$Rules;") (List.mem_of_getElem? (i := 1) rfl)) (fun _ h9 => h9) (v := .ref (xad G 1)) rfl dX5_rule_68 ?_
    refine lv_iload_n hx hb dX5_rule_71 rfl (lv_at hl 3 rfl) ?_
    refine x_putN (C := RX3) (T := TX3) (N := 2) hx hb hts inX5_rule_X3 tyX3 tyX3_ok nmX3 hown hG hw xO1 rfl 0 (by decide) (va_Nw.use rfl (hG.2.2.2.1 _ (List.mem_of_getElem? (i := 1) rfl))) (fun _ h9 => h9) rfl (ty := .int) (by decide +kernel) rfl rfl (Nat.le_of_ble_eq_true rfl) rfl dX5_rule_72 (fun A_3 H locs eA_3 hw => ?_)
    have h := h A_3 eA_3
    refine lv_goto (tgt := 86) hx hb dX5_rule_75 (by decide) ?_
    exact t_X5_rule_86 C0 hw (lv_sub hl [1, 0] rfl) h
set_option maxHeartbeats 4000000 in
set_option maxRecDepth 100000 in
theorem t_X5_rule_22 (C0 : xC p s m args meth c G cX5_rule (some .int) wsX5_rule RX5 5) {post : Int32 → xM → xL → Prop} {x1 : Int32} {x2 : Int32} {s0 : Int32} {A : xM} {L : xL} {H : Heap} {locs : List Loc} {ls : Array Slot} (hw : xW G s.heap A L H locs) (hl : lv_has ls 5 [(0, .ref (xad G 0)), (1, .int x1), (2, .int x2)]) (h : v_X5_rule_22 x1 x2 s0 A L post) : W p l e rX5_rule s m args below meth c H locs 0 0 (MQ below (xQi G post) args s 0 0 (xAf G)) (F0 m 22 ls [.int s0]) := by
  obtain ⟨hx, hb, hr, hts, hown, hml, hlocks, hG⟩ := id C0
  unfold v_X5_rule_22 at h
  refine lv_istore_n (lv' := [(3, .int s0), (0, .ref (xad G 0)), (1, .int x1), (2, .int x2)]) hx hb dX5_rule_22 rfl hl (by decide) rfl (fun ls hl => ?_)
  refine lv_iload_n hx hb dX5_rule_23 rfl (lv_at hl 2 rfl) ?_
  refine lv_iconst (v := 0) hx hb dX5_rule_24 (by decide) ?_
  refine lv_iconst (v := 1) hx hb dX5_rule_25 (by decide) ?_
  refine x_calli hG hw (va_runS (As := [.int x1, .int (0 : Int32), .int (1 : Int32)]) (rest := []) ⟨hx, hb, hml, hown, hts⟩ (c_X5_isOutside (l := l) (G := G) h) (va_cwS 3 hts gX5_rule_X5_isOutside rfl rfl rfl (by decide +kernel) ⟨Nat.le_of_ble_eq_true rfl, Nat.le_of_ble_eq_true rfl⟩) (x_preS hG hw) rfl rfl hl.1 rfl (lv_room (Nat.le_of_ble_eq_true rfl)) dX5_rule_26 ⟨Nat.le_of_ble_eq_true rfl, Nat.le_of_ble_eq_true rfl⟩) (fun r_1 A9 L9 H locs hw h => ?_)
  rw [h.2.1, h.2.2] at hw
  have h := h.1
  refine lv_if_ne (tgt := 36) hx hb dX5_rule_29 (by decide) (fun c_2 => ?_) (fun c_2 => ?_)
  · have h := h.1 c_2
    refine lv_sipush (v := (-1002)) hx hb dX5_rule_36 (by decide) ?_
    exact x_iret hx hb hr hlocks hG hw h dX5_rule_39
  · have h := h.2 c_2
    refine lv_iload_n hx hb dX5_rule_32 rfl (lv_at hl 0 rfl) ?_
    refine lv_if_eq (tgt := 40) hx hb dX5_rule_33 (by decide) (fun c_3 => ?_) (fun c_3 => ?_)
    · have h := h.1 c_3
      refine lv_iload_n hx hb dX5_rule_40 rfl (lv_at hl 2 rfl) ?_
      refine lv_if_ne (tgt := 54) hx hb dX5_rule_41 (by decide) (fun c_4 => ?_) (fun c_4 => ?_)
      · have h := h.1 c_4
        refine lv_aload_n hx hb dX5_rule_54 rfl (lv_at hl 1 rfl) ?_
        refine x_get (C := RX5) (T := TX5) (N := 6) hx hb hts inX5_rule_X5 hown hG hw xO0 rfl 0 (by decide) (hts (.fieldLink RX5 10 "SixNumbers" "rules" "LSixNumbers$Rules;") (List.mem_of_getElem? (i := 1) rfl)) (fun _ h9 => h9) (v := .ref (xad G 1)) rfl dX5_rule_55 ?_
        refine x_getN (C := RX3) (T := TX3) (N := 2) hx hb hts inX5_rule_X3 hown hG hw xO1 rfl 1 (by decide) (va_Nw.use rfl (hG.2.2.2.1 _ (List.mem_of_getElem? (i := 2) rfl))) (fun _ h9 => h9) (v := .int (A 1 1)) rfl dX5_rule_58 ?_
        exact t_X5_rule_61 C0 hw (lv_sub hl [1, 2, 3] rfl) h
      · have h := h.2 c_4
        refine lv_aload_n hx hb dX5_rule_44 rfl (lv_at hl 1 rfl) ?_
        refine x_get (C := RX5) (T := TX5) (N := 6) hx hb hts inX5_rule_X5 hown hG hw xO0 rfl 0 (by decide) (hts (.fieldLink RX5 10 "SixNumbers" "rules" "LSixNumbers$Rules;") (List.mem_of_getElem? (i := 1) rfl)) (fun _ h9 => h9) (v := .ref (xad G 1)) rfl dX5_rule_45 ?_
        refine x_getN (C := RX3) (T := TX3) (N := 2) hx hb hts inX5_rule_X3 hown hG hw xO1 rfl 0 (by decide) (va_Nw.use rfl (hG.2.2.2.1 _ (List.mem_of_getElem? (i := 1) rfl))) (fun _ h9 => h9) (v := .int (A 1 0)) rfl dX5_rule_48 ?_
        refine lv_goto (tgt := 61) hx hb dX5_rule_51 (by decide) ?_
        exact t_X5_rule_61 C0 hw (lv_sub hl [1, 2, 3] rfl) h
    · have h := h.2 c_3
      refine lv_sipush (v := (-1002)) hx hb dX5_rule_36 (by decide) ?_
      exact x_iret hx hb hr hlocks hG hw h dX5_rule_39
set_option maxHeartbeats 4000000 in
set_option maxRecDepth 100000 in
theorem t_X5_rule_0 (C0 : xC p s m args meth c G cX5_rule (some .int) wsX5_rule RX5 5) {post : Int32 → xM → xL → Prop} {x1 : Int32} {x2 : Int32} {A : xM} {L : xL} {H : Heap} {locs : List Loc} {ls : Array Slot} (hw : xW G s.heap A L H locs) (hl : lv_has ls 5 [(0, .ref (xad G 0)), (1, .int x1), (2, .int x2)]) (h : v_X5_rule x1 x2 A L post) : W p l e rX5_rule s m args below meth c H locs 0 0 (MQ below (xQi G post) args s 0 0 (xAf G)) (F0 m 0 ls []) := by
  obtain ⟨hx, hb, hr, hts, hown, hml, hlocks, hG⟩ := id C0
  unfold v_X5_rule at h
  refine lv_iload_n hx hb dX5_rule_0 rfl (lv_at hl 1 rfl) ?_
  refine lv_if_ne (tgt := 14) hx hb dX5_rule_1 (by decide) (fun c_1 => ?_) (fun c_1 => ?_)
  · have h := h.1 c_1
    refine lv_iload_n hx hb dX5_rule_14 rfl (lv_at hl 2 rfl) ?_
    refine lv_iconst (v := 1) hx hb dX5_rule_15 (by decide) ?_
    refine lv_sipush (v := 3000) hx hb dX5_rule_16 (by decide) ?_
    refine x_calli hG hw (va_runS (As := [.int x2, .int (1 : Int32), .int (3000 : Int32)]) (rest := []) ⟨hx, hb, hml, hown, hts⟩ (c_X5_isOutside (l := l) (G := G) h) (va_cwS 3 hts gX5_rule_X5_isOutside rfl rfl rfl (by decide +kernel) ⟨Nat.le_of_ble_eq_true rfl, Nat.le_of_ble_eq_true rfl⟩) (x_preS hG hw) rfl rfl hl.1 rfl (lv_room (Nat.le_of_ble_eq_true rfl)) dX5_rule_19 ⟨Nat.le_of_ble_eq_true rfl, Nat.le_of_ble_eq_true rfl⟩) (fun r_2 A9 L9 H locs hw h => ?_)
    rw [h.2.1, h.2.2] at hw
    have h := h.1
    exact t_X5_rule_22 C0 hw (lv_sub hl [0, 1, 2] rfl) h
  · have h := h.2 c_1
    refine lv_iload_n hx hb dX5_rule_4 rfl (lv_at hl 2 rfl) ?_
    refine lv_iconst (v := 0) hx hb dX5_rule_5 (by decide) ?_
    refine lv_bipush (v := 15) hx hb dX5_rule_6 (by decide) ?_
    refine x_calli hG hw (va_runS (As := [.int x2, .int (0 : Int32), .int (15 : Int32)]) (rest := []) ⟨hx, hb, hml, hown, hts⟩ (c_X5_isOutside (l := l) (G := G) h) (va_cwS 3 hts gX5_rule_X5_isOutside rfl rfl rfl (by decide +kernel) ⟨Nat.le_of_ble_eq_true rfl, Nat.le_of_ble_eq_true rfl⟩) (x_preS hG hw) rfl rfl hl.1 rfl (lv_room (Nat.le_of_ble_eq_true rfl)) dX5_rule_8 ⟨Nat.le_of_ble_eq_true rfl, Nat.le_of_ble_eq_true rfl⟩) (fun r_3 A9 L9 H locs hw h => ?_)
    rw [h.2.1, h.2.2] at hw
    have h := h.1
    refine lv_goto (tgt := 22) hx hb dX5_rule_11 (by decide) ?_
    exact t_X5_rule_22 C0 hw (lv_sub hl [0, 1, 2] rfl) h
theorem c_X5_rule {l : Launch} {G : xGt} {x1 : Int32} {x2 : Int32} {A : xM} {L : xL} {post : Int32 → xM → xL → Prop} (h : v_X5_rule x1 x2 A L post) : Met l yX5_rule wsX5_rule rX5_rule (va_Pc [.ref (xad G 0), .int x1, .int x2] (xPre G A L)) (xQi G post) 0 0 (xAf G) :=
  x_met RX5 rfl (by decide) rfl (Nat.le_of_ble_eq_true rfl) (fun p e s m below meth c ls C0 hw hl => t_X5_rule_0 C0 hw hl h)
end MECH
abbrev rX5_told : Room := { frames := 1, cells := 0, slots := 0, locals := 22 }
theorem inX5_told_X0 : ∀ w ∈ wsX00, w ∈ wsX5_told := fun w h => List.mem_cons_of_mem _ (List.mem_append_left _ (List.mem_append_right _ h))
theorem inX5_told_X1 : ∀ w ∈ wsX10, w ∈ wsX5_told := fun w h => List.mem_cons_of_mem _ (List.mem_append_left _ (List.mem_append_left _ (List.mem_append_left _ (List.mem_append_right _ h))))
theorem inX5_told_X2 : ∀ w ∈ wsX20, w ∈ wsX5_told := fun w h => List.mem_cons_of_mem _ (List.mem_append_right _ h)
theorem inX5_told_X3 : ∀ w ∈ wsX30, w ∈ wsX5_told := fun w h => List.mem_cons_of_mem _ (List.mem_append_left _ (List.mem_append_left _ (List.mem_append_right _ h)))
theorem inX5_told_X5 : ∀ w ∈ wsX50, w ∈ wsX5_told := fun w h => List.mem_cons_of_mem _ (List.mem_append_left _ (List.mem_append_left _ (List.mem_append_left _ (List.mem_append_left _ (List.mem_append_right _ h)))))
def v_X5_told (x1 : Int32) (A : xM) (L : xL) (post : Int32 → Prop) : Prop := (x1.toInt < 0 ∨ 4 < x1.toInt → (v_X5_isOutside x1 (10 : Int32) (15 : Int32) (fun (r_2 : Int32) => ((¬ r_2 = 0 → (v_X5_isOutside x1 (20 : Int32) (29 : Int32) (fun (r_4 : Int32) => ((¬ r_4 = 0 → (post (-1002 : Int32))) ∧ (r_4 = 0 → (v_X0_cardAt (x1 - (20 : Int32)) A L (fun (r_6 : Int32) => (post r_6)))))))) ∧ (r_2 = 0 → (v_X1_itemAt 0 (x1 - (10 : Int32)) A L (fun (r_7 : Int32) => (post r_7)))))))) ∧ (x1 = (0 : Int32) → (post (A (2 + 6 * 0) 6))) ∧ (x1 = (1 : Int32) → (post (A 1 0))) ∧ (x1 = (2 : Int32) → (post (A 1 1))) ∧ (x1 = (3 : Int32) → (post (A 14 2))) ∧ (x1 = (4 : Int32) → (post (A 18 1)))
section MECH
variable {p : Program} {l : Launch} {e : Env} {s : State} {m : MethodId} {args : Array Value} {below : List Frame} {meth : Method} {c : Code} {G : xGt}
set_option maxHeartbeats 4000000 in
set_option maxRecDepth 100000 in
theorem t_X5_told_0 (C0 : xC p s m args meth c G cX5_told (some .int) wsX5_told RX5 2) {post : Int32 → Prop} {x1 : Int32} {A : xM} {L : xL} {H : Heap} {locs : List Loc} {ls : Array Slot} (hw : xW G s.heap A L H locs) (hl : lv_has ls 2 [(0, .ref (xad G 0)), (1, .int x1)]) (h : v_X5_told x1 A L post) : W p l e rX5_told s m args below meth c H locs 0 0 (MQ below (xQi G (xpi A L post)) args s 0 0 (xAf G)) (F0 m 0 ls []) := by
  obtain ⟨hx, hb, hr, hts, hown, hml, hlocks, hG⟩ := id C0
  unfold v_X5_told at h
  refine lv_iload_n hx hb dX5_told_0 rfl (lv_at hl 1 rfl) ?_
  by_cases c_1 : x1.toInt < 0 ∨ 4 < x1.toInt
  · have h := h.1 c_1
    refine lv_tableOut (tgt := 76) hx hb dX5_told_1 c_1 (by decide) ?_
    refine lv_iload_n hx hb dX5_told_76 rfl (lv_at hl 1 rfl) ?_
    refine lv_bipush (v := 10) hx hb dX5_told_77 (by decide) ?_
    refine lv_bipush (v := 15) hx hb dX5_told_79 (by decide) ?_
    refine x_calli hG hw (va_runS (As := [.int x1, .int (10 : Int32), .int (15 : Int32)]) (rest := []) ⟨hx, hb, hml, hown, hts⟩ (c_X5_isOutside (l := l) (G := G) h) (va_cwS 3 hts gX5_told_X5_isOutside rfl rfl rfl (by decide +kernel) ⟨Nat.le_of_ble_eq_true rfl, Nat.le_of_ble_eq_true rfl⟩) (x_preS hG hw) rfl rfl hl.1 rfl (lv_room (Nat.le_of_ble_eq_true rfl)) dX5_told_81 ⟨Nat.le_of_ble_eq_true rfl, Nat.le_of_ble_eq_true rfl⟩) (fun r_2 A9 L9 H locs hw h => ?_)
    rw [h.2.1, h.2.2] at hw
    have h := h.1
    refine lv_if_ne (tgt := 99) hx hb dX5_told_84 (by decide) (fun c_3 => ?_) (fun c_3 => ?_)
    · have h := h.1 c_3
      refine lv_iload_n hx hb dX5_told_99 rfl (lv_at hl 1 rfl) ?_
      refine lv_bipush (v := 20) hx hb dX5_told_100 (by decide) ?_
      refine lv_bipush (v := 29) hx hb dX5_told_102 (by decide) ?_
      refine x_calli hG hw (va_runS (As := [.int x1, .int (20 : Int32), .int (29 : Int32)]) (rest := []) ⟨hx, hb, hml, hown, hts⟩ (c_X5_isOutside (l := l) (G := G) h) (va_cwS 3 hts gX5_told_X5_isOutside rfl rfl rfl (by decide +kernel) ⟨Nat.le_of_ble_eq_true rfl, Nat.le_of_ble_eq_true rfl⟩) (x_preS hG hw) rfl rfl hl.1 rfl (lv_room (Nat.le_of_ble_eq_true rfl)) dX5_told_104 ⟨Nat.le_of_ble_eq_true rfl, Nat.le_of_ble_eq_true rfl⟩) (fun r_4 A9 L9 H locs hw h => ?_)
      rw [h.2.1, h.2.2] at hw
      have h := h.1
      refine lv_if_ne (tgt := 122) hx hb dX5_told_107 (by decide) (fun c_5 => ?_) (fun c_5 => ?_)
      · have h := h.1 c_5
        refine lv_sipush (v := (-1002)) hx hb dX5_told_122 (by decide) ?_
        exact x_iret hx hb hr hlocks hG hw ⟨h, rfl, rfl⟩ dX5_told_125
      · have h := h.2 c_5
        refine lv_aload_n hx hb dX5_told_110 rfl (lv_at hl 0 rfl) ?_
        refine x_get (C := RX5) (T := TX5) (N := 6) hx hb hts inX5_told_X5 hown hG hw xO0 rfl 3 (by decide) (hts (.fieldLink RX5 33 "SixNumbers" "box" "LSixNumbers$Box;") (List.mem_of_getElem? (i := 3) rfl)) (fun _ h9 => h9) (v := .ref (xad G 14)) rfl dX5_told_111 ?_
        refine lv_iload_n hx hb dX5_told_114 rfl (lv_at hl 1 rfl) ?_
        refine lv_bipush (v := 20) hx hb dX5_told_115 (by decide) ?_
        refine lv_isub hx hb dX5_told_117 ?_
        refine x_calli hG hw (va_runV (As := [.int (x1 - (20 : Int32))]) (rest := []) ⟨hx, hb, hml, hown, hts⟩ (c_X0_cardAt (l := l) (G := G) h) (cwV 1 hts gX5_told_X0_cardAt rfl rfl rfl (by decide +kernel) ⟨Nat.le_of_ble_eq_true rfl, Nat.le_of_ble_eq_true rfl⟩) (x_preV hG hw xO14 rfl) rfl rfl hl.1 rfl (lv_room (Nat.le_of_ble_eq_true rfl)) dX5_told_118 ⟨Nat.le_of_ble_eq_true rfl, Nat.le_of_ble_eq_true rfl⟩) (fun r_6 A9 L9 H locs hw h => ?_)
        rw [h.2.1, h.2.2] at hw
        have h := h.1
        exact x_iret hx hb hr hlocks hG hw ⟨h, rfl, rfl⟩ dX5_told_121
    · have h := h.2 c_3
      refine lv_aload_n hx hb dX5_told_87 rfl (lv_at hl 0 rfl) ?_
      refine x_get (C := RX5) (T := TX5) (N := 6) hx hb hts inX5_told_X5 hown hG hw xO0 rfl 1 (by decide) (hts (.fieldLink RX5 21 "SixNumbers" "heap" "LSixNumbers$Heap;") (List.mem_of_getElem? (i := 1) rfl)) (fun _ h9 => h9) (v := .ref (xad G (2 + 6 * 0))) rfl dX5_told_88 ?_
      refine lv_iload_n hx hb dX5_told_91 rfl (lv_at hl 1 rfl) ?_
      refine lv_bipush (v := 10) hx hb dX5_told_92 (by decide) ?_
      refine lv_isub hx hb dX5_told_94 ?_
      refine x_calli hG hw (va_runV (As := [.int (x1 - (10 : Int32))]) (rest := []) ⟨hx, hb, hml, hown, hts⟩ (c_X1_itemAt (l := l) (G := G) (show 0 < 2 by decide) h) (cwV 1 hts gX5_told_X1_itemAt rfl rfl rfl (by decide +kernel) ⟨Nat.le_of_ble_eq_true rfl, Nat.le_of_ble_eq_true rfl⟩) (x_preV hG hw (xOh (q := 0) (by decide)) rfl) rfl rfl hl.1 rfl (lv_room (Nat.le_of_ble_eq_true rfl)) dX5_told_95 ⟨Nat.le_of_ble_eq_true rfl, Nat.le_of_ble_eq_true rfl⟩) (fun r_7 A9 L9 H locs hw h => ?_)
      rw [h.2.1, h.2.2] at hw
      have h := h.1
      exact x_iret hx hb hr hlocks hG hw ⟨h, rfl, rfl⟩ dX5_told_98
  · rcases (show x1.toInt = 0 ∨ x1.toInt = 1 ∨ x1.toInt = 2 ∨ x1.toInt = 3 ∨ x1.toInt = 4 by omega) with c8 | c8 | c8 | c8 | c8
    · have c9 : x1 = (0 : Int32) := Int32.toInt_inj.mp (c8.trans (by decide))
      have h := h.2.1 c9
      refine lv_tableIn (tgt := 36) hx hb dX5_told_1 (by omega) (by omega) (by rw [c8]; rfl) (by decide) ?_
      refine lv_aload_n hx hb dX5_told_36 rfl (lv_at hl 0 rfl) ?_
      refine x_get (C := RX5) (T := TX5) (N := 6) hx hb hts inX5_told_X5 hown hG hw xO0 rfl 1 (by decide) (hts (.fieldLink RX5 21 "SixNumbers" "heap" "LSixNumbers$Heap;") (List.mem_of_getElem? (i := 1) rfl)) (fun _ h9 => h9) (v := .ref (xad G (2 + 6 * 0))) rfl dX5_told_37 ?_
      refine x_getN (C := RX1) (T := TX1) (N := 8) hx hb hts inX5_told_X1 hown hG hw (xOh (q := 0) (by decide)) rfl 6 (by decide) (va_Nw.use rfl (hG.2.2.2.1 _ (List.mem_of_getElem? (i := 0) rfl))) (fun _ h9 => h9) (v := .int (A (2 + 6 * 0) 6)) (xf_v6 (show 0 < 2 by decide)) dX5_told_40 ?_
      exact x_iret hx hb hr hlocks hG hw ⟨h, rfl, rfl⟩ dX5_told_43
    · have c9 : x1 = (1 : Int32) := Int32.toInt_inj.mp (c8.trans (by decide))
      have h := h.2.2.1 c9
      refine lv_tableIn (tgt := 44) hx hb dX5_told_1 (by omega) (by omega) (by rw [c8]; rfl) (by decide) ?_
      refine lv_aload_n hx hb dX5_told_44 rfl (lv_at hl 0 rfl) ?_
      refine x_get (C := RX5) (T := TX5) (N := 6) hx hb hts inX5_told_X5 hown hG hw xO0 rfl 0 (by decide) (hts (.fieldLink RX5 10 "SixNumbers" "rules" "LSixNumbers$Rules;") (List.mem_of_getElem? (i := 2) rfl)) (fun _ h9 => h9) (v := .ref (xad G 1)) rfl dX5_told_45 ?_
      refine x_getN (C := RX3) (T := TX3) (N := 2) hx hb hts inX5_told_X3 hown hG hw xO1 rfl 0 (by decide) (va_Nw.use rfl (hG.2.2.2.1 _ (List.mem_of_getElem? (i := 1) rfl))) (fun _ h9 => h9) (v := .int (A 1 0)) rfl dX5_told_48 ?_
      exact x_iret hx hb hr hlocks hG hw ⟨h, rfl, rfl⟩ dX5_told_51
    · have c9 : x1 = (2 : Int32) := Int32.toInt_inj.mp (c8.trans (by decide))
      have h := h.2.2.2.1 c9
      refine lv_tableIn (tgt := 52) hx hb dX5_told_1 (by omega) (by omega) (by rw [c8]; rfl) (by decide) ?_
      refine lv_aload_n hx hb dX5_told_52 rfl (lv_at hl 0 rfl) ?_
      refine x_get (C := RX5) (T := TX5) (N := 6) hx hb hts inX5_told_X5 hown hG hw xO0 rfl 0 (by decide) (hts (.fieldLink RX5 10 "SixNumbers" "rules" "LSixNumbers$Rules;") (List.mem_of_getElem? (i := 2) rfl)) (fun _ h9 => h9) (v := .ref (xad G 1)) rfl dX5_told_53 ?_
      refine x_getN (C := RX3) (T := TX3) (N := 2) hx hb hts inX5_told_X3 hown hG hw xO1 rfl 1 (by decide) (va_Nw.use rfl (hG.2.2.2.1 _ (List.mem_of_getElem? (i := 2) rfl))) (fun _ h9 => h9) (v := .int (A 1 1)) rfl dX5_told_56 ?_
      exact x_iret hx hb hr hlocks hG hw ⟨h, rfl, rfl⟩ dX5_told_59
    · have c9 : x1 = (3 : Int32) := Int32.toInt_inj.mp (c8.trans (by decide))
      have h := h.2.2.2.2.1 c9
      refine lv_tableIn (tgt := 60) hx hb dX5_told_1 (by omega) (by omega) (by rw [c8]; rfl) (by decide) ?_
      refine lv_aload_n hx hb dX5_told_60 rfl (lv_at hl 0 rfl) ?_
      refine x_get (C := RX5) (T := TX5) (N := 6) hx hb hts inX5_told_X5 hown hG hw xO0 rfl 3 (by decide) (hts (.fieldLink RX5 33 "SixNumbers" "box" "LSixNumbers$Box;") (List.mem_of_getElem? (i := 3) rfl)) (fun _ h9 => h9) (v := .ref (xad G 14)) rfl dX5_told_61 ?_
      refine x_getN (C := RX0) (T := TX0) (N := 6) hx hb hts inX5_told_X0 hown hG hw xO14 rfl 2 (by decide) (va_Nw.use rfl (hG.2.2.2.1 _ (List.mem_of_getElem? (i := 4) rfl))) (fun _ h9 => h9) (v := .int (A 14 2)) rfl dX5_told_64 ?_
      exact x_iret hx hb hr hlocks hG hw ⟨h, rfl, rfl⟩ dX5_told_67
    · have c9 : x1 = (4 : Int32) := Int32.toInt_inj.mp (c8.trans (by decide))
      have h := h.2.2.2.2.2 c9
      refine lv_tableIn (tgt := 68) hx hb dX5_told_1 (by omega) (by omega) (by rw [c8]; rfl) (by decide) ?_
      refine lv_aload_n hx hb dX5_told_68 rfl (lv_at hl 0 rfl) ?_
      refine x_get (C := RX5) (T := TX5) (N := 6) hx hb hts inX5_told_X5 hown hG hw xO0 rfl 4 (by decide) (hts (.fieldLink RX5 40 "SixNumbers" "bytes" "LSixNumbers$Out;") (List.mem_of_getElem? (i := 4) rfl)) (fun _ h9 => h9) (v := .ref (xad G 18)) rfl dX5_told_69 ?_
      refine x_getN (C := RX2) (T := TX2) (N := 2) hx hb hts inX5_told_X2 hown hG hw xO18 rfl 1 (by decide) (va_Nw.use rfl (hG.2.2.2.1 _ (List.mem_of_getElem? (i := 5) rfl))) (fun _ h9 => h9) (v := .int (A 18 1)) rfl dX5_told_72 ?_
      exact x_iret hx hb hr hlocks hG hw ⟨h, rfl, rfl⟩ dX5_told_75
theorem c_X5_told {l : Launch} {G : xGt} {x1 : Int32} {A : xM} {L : xL} {post : Int32 → Prop} (h : v_X5_told x1 A L post) : Met l yX5_told wsX5_told rX5_told (va_Pc [.ref (xad G 0), .int x1] (xPre G A L)) (xQi G (xpi A L post)) 0 0 (xAf G) :=
  x_met RX5 rfl (by decide) rfl (Nat.le_of_ble_eq_true rfl) (fun p e s m below meth c ls C0 hw hl => t_X5_told_0 C0 hw hl h)
end MECH
abbrev rX5_isNoWholeSet : Room := { frames := 1, cells := 0, slots := 0, locals := 21 }
theorem inX5_isNoWholeSet_X5 : ∀ w ∈ wsX50, w ∈ wsX5_isNoWholeSet := fun w h => List.mem_cons_of_mem _ (List.mem_append_left _ (List.mem_append_right _ h))
def v_X5_isNoWholeSet (x1 : Int32) (A : xM) (L : xL) (post : Int32 → Prop) : Prop := (x1 = 0 → (post (1 : Int32))) ∧ (¬ x1 = 0 → (v_X1_knows 0 x1 A L (fun (r_2 : Int32) => ((¬ r_2 = 0 → (post (0 : Int32))) ∧ (r_2 = 0 → (post (1 : Int32)))))))
section MECH
variable {p : Program} {l : Launch} {e : Env} {s : State} {m : MethodId} {args : Array Value} {below : List Frame} {meth : Method} {c : Code} {G : xGt}
set_option maxHeartbeats 4000000 in
set_option maxRecDepth 100000 in
theorem t_X5_isNoWholeSet_0 (C0 : xC p s m args meth c G cX5_isNoWholeSet (some .boolean) wsX5_isNoWholeSet RX5 2) {post : Int32 → Prop} {x1 : Int32} {A : xM} {L : xL} {H : Heap} {locs : List Loc} {ls : Array Slot} (hw : xW G s.heap A L H locs) (hl : lv_has ls 2 [(0, .ref (xad G 0)), (1, .int x1)]) (h : v_X5_isNoWholeSet x1 A L post) : W p l e rX5_isNoWholeSet s m args below meth c H locs 0 0 (MQ below (xQi G (xpi A L post)) args s 0 0 (xAf G)) (F0 m 0 ls []) := by
  obtain ⟨hx, hb, hr, hts, hown, hml, hlocks, hG⟩ := id C0
  unfold v_X5_isNoWholeSet at h
  refine lv_iload_n hx hb dX5_isNoWholeSet_0 rfl (lv_at hl 1 rfl) ?_
  refine lv_if_eq (tgt := 15) hx hb dX5_isNoWholeSet_1 (by decide) (fun c_1 => ?_) (fun c_1 => ?_)
  · have h := h.1 c_1
    refine lv_iconst (v := 1) hx hb dX5_isNoWholeSet_15 (by decide) ?_
    refine lv_goto (tgt := 20) hx hb dX5_isNoWholeSet_16 (by decide) ?_
    exact x_zret hx hb hr hlocks hG hw (by decide) ⟨h, rfl, rfl⟩ dX5_isNoWholeSet_20
  · have h := h.2 c_1
    refine lv_aload_n hx hb dX5_isNoWholeSet_4 rfl (lv_at hl 0 rfl) ?_
    refine x_get (C := RX5) (T := TX5) (N := 6) hx hb hts inX5_isNoWholeSet_X5 hown hG hw xO0 rfl 1 (by decide) (hts (.fieldLink RX5 21 "SixNumbers" "heap" "LSixNumbers$Heap;") (List.mem_of_getElem? (i := 1) rfl)) (fun _ h9 => h9) (v := .ref (xad G (2 + 6 * 0))) rfl dX5_isNoWholeSet_5 ?_
    refine lv_iload_n hx hb dX5_isNoWholeSet_8 rfl (lv_at hl 1 rfl) ?_
    refine x_calli hG hw (va_runV (As := [.int x1]) (rest := []) ⟨hx, hb, hml, hown, hts⟩ (c_X1_knows (l := l) (G := G) (show 0 < 2 by decide) h) (cwV 1 hts gX5_isNoWholeSet_X1_knows rfl rfl rfl (by decide +kernel) ⟨Nat.le_of_ble_eq_true rfl, Nat.le_of_ble_eq_true rfl⟩) (x_preV hG hw (xOh (q := 0) (by decide)) rfl) rfl rfl hl.1 rfl (lv_room (Nat.le_of_ble_eq_true rfl)) dX5_isNoWholeSet_9 ⟨Nat.le_of_ble_eq_true rfl, Nat.le_of_ble_eq_true rfl⟩) (fun r_2 A9 L9 H locs hw h => ?_)
    rw [h.2.1, h.2.2] at hw
    have h := h.1
    refine lv_if_ne (tgt := 19) hx hb dX5_isNoWholeSet_12 (by decide) (fun c_3 => ?_) (fun c_3 => ?_)
    · have h := h.1 c_3
      refine lv_iconst (v := 0) hx hb dX5_isNoWholeSet_19 (by decide) ?_
      exact x_zret hx hb hr hlocks hG hw (by decide) ⟨h, rfl, rfl⟩ dX5_isNoWholeSet_20
    · have h := h.2 c_3
      refine lv_iconst (v := 1) hx hb dX5_isNoWholeSet_15 (by decide) ?_
      refine lv_goto (tgt := 20) hx hb dX5_isNoWholeSet_16 (by decide) ?_
      exact x_zret hx hb hr hlocks hG hw (by decide) ⟨h, rfl, rfl⟩ dX5_isNoWholeSet_20
theorem c_X5_isNoWholeSet {l : Launch} {G : xGt} {x1 : Int32} {A : xM} {L : xL} {post : Int32 → Prop} (h : v_X5_isNoWholeSet x1 A L post) : Met l yX5_isNoWholeSet wsX5_isNoWholeSet rX5_isNoWholeSet (va_Pc [.ref (xad G 0), .int x1] (xPre G A L)) (xQi G (xpi A L post)) 0 0 (xAf G) :=
  x_met RX5 rfl (by decide) rfl (Nat.le_of_ble_eq_true rfl) (fun p e s m below meth c ls C0 hw hl => t_X5_isNoWholeSet_0 C0 hw hl h)
end MECH
abbrev rX5_ways : Room := { frames := 4, cells := 0, slots := 0, locals := 102 }
theorem inX5_ways_X5 : ∀ w ∈ wsX50, w ∈ wsX5_ways := fun w h => List.mem_cons_of_mem _ (List.mem_append_left _ (List.mem_append_left _ (List.mem_append_right _ h)))
def v_X5_ways (x1 : Int32) (x2 : Int32) (A : xM) (L : xL) (post : Int64 → xM → xL → Prop) : Prop := v_X5_isNoWholeSet x1 A L (fun (r_1 : Int32) => ((¬ r_1 = 0 → (post (-1002 : Int64) A L)) ∧ (r_1 = 0 → (v_X5_isOutside x2 (1 : Int32) (3000 : Int32) (fun (r_3 : Int32) => ((r_3 = 0 → (v_X1_refresh 0 A L (fun (A_5 : xM) (L_6 : xL) => (v_X1_countOf 0 x1 x2 A_5 L_6 (fun (r_7 : Int64) => (post r_7 A_5 L_6)))))) ∧ (¬ r_3 = 0 → (post (-1002 : Int64) A L))))))))
section MECH
variable {p : Program} {l : Launch} {e : Env} {s : State} {m : MethodId} {args : Array Value} {below : List Frame} {meth : Method} {c : Code} {G : xGt}
set_option maxHeartbeats 4000000 in
set_option maxRecDepth 100000 in
theorem t_X5_ways_0 (C0 : xC p s m args meth c G cX5_ways (some .long) wsX5_ways RX5 3) {post : Int64 → xM → xL → Prop} {x1 : Int32} {x2 : Int32} {A : xM} {L : xL} {H : Heap} {locs : List Loc} {ls : Array Slot} (hw : xW G s.heap A L H locs) (hl : lv_has ls 3 [(0, .ref (xad G 0)), (1, .int x1), (2, .int x2)]) (h : v_X5_ways x1 x2 A L post) : W p l e rX5_ways s m args below meth c H locs 0 0 (MQ below (xQl G post) args s 0 0 (xAf G)) (F0 m 0 ls []) := by
  obtain ⟨hx, hb, hr, hts, hown, hml, hlocks, hG⟩ := id C0
  unfold v_X5_ways at h
  refine lv_aload_n hx hb dX5_ways_0 rfl (lv_at hl 0 rfl) ?_
  refine lv_iload_n hx hb dX5_ways_1 rfl (lv_at hl 1 rfl) ?_
  refine x_calli hG hw (va_runV (As := [.int x1]) (rest := []) ⟨hx, hb, hml, hown, hts⟩ (c_X5_isNoWholeSet (l := l) (G := G) h) (cwV 1 hts gX5_ways_X5_isNoWholeSet rfl rfl rfl (by decide +kernel) ⟨Nat.le_of_ble_eq_true rfl, Nat.le_of_ble_eq_true rfl⟩) (x_preV hG hw xO0 rfl) rfl rfl hl.1 rfl (lv_room (Nat.le_of_ble_eq_true rfl)) dX5_ways_2 ⟨Nat.le_of_ble_eq_true rfl, Nat.le_of_ble_eq_true rfl⟩) (fun r_1 A9 L9 H locs hw h => ?_)
  rw [h.2.1, h.2.2] at hw
  have h := h.1
  refine lv_if_ne (tgt := 19) hx hb dX5_ways_5 (by decide) (fun c_2 => ?_) (fun c_2 => ?_)
  · have h := h.1 c_2
    refine lv_ldc2 (v := (-1002 : Int64)) hx hb hown (hts _ (List.mem_of_getElem? (i := 1) rfl)) dX5_ways_19 ?_
    exact x_lret hx hb hr hlocks hG hw h dX5_ways_22
  · have h := h.2 c_2
    refine lv_iload_n hx hb dX5_ways_8 rfl (lv_at hl 2 rfl) ?_
    refine lv_iconst (v := 1) hx hb dX5_ways_9 (by decide) ?_
    refine lv_sipush (v := 3000) hx hb dX5_ways_10 (by decide) ?_
    refine x_calli hG hw (va_runS (As := [.int x2, .int (1 : Int32), .int (3000 : Int32)]) (rest := []) ⟨hx, hb, hml, hown, hts⟩ (c_X5_isOutside (l := l) (G := G) h) (va_cwS 3 hts gX5_ways_X5_isOutside rfl rfl rfl (by decide +kernel) ⟨Nat.le_of_ble_eq_true rfl, Nat.le_of_ble_eq_true rfl⟩) (x_preS hG hw) rfl rfl hl.1 rfl (lv_room (Nat.le_of_ble_eq_true rfl)) dX5_ways_13 ⟨Nat.le_of_ble_eq_true rfl, Nat.le_of_ble_eq_true rfl⟩) (fun r_3 A9 L9 H locs hw h => ?_)
    rw [h.2.1, h.2.2] at hw
    have h := h.1
    refine lv_if_eq (tgt := 23) hx hb dX5_ways_16 (by decide) (fun c_4 => ?_) (fun c_4 => ?_)
    · have h := h.1 c_4
      refine lv_aload_n hx hb dX5_ways_23 rfl (lv_at hl 0 rfl) ?_
      refine x_get (C := RX5) (T := TX5) (N := 6) hx hb hts inX5_ways_X5 hown hG hw xO0 rfl 1 (by decide) (hts (.fieldLink RX5 21 "SixNumbers" "heap" "LSixNumbers$Heap;") (List.mem_of_getElem? (i := 2) rfl)) (fun _ h9 => h9) (v := .ref (xad G (2 + 6 * 0))) rfl dX5_ways_24 ?_
      refine x_callv hG hw (va_runV (As := []) (rest := []) ⟨hx, hb, hml, hown, hts⟩ (c_X1_refresh (l := l) (G := G) (show 0 < 2 by decide) h) (cwV 0 hts gX5_ways_X1_refresh rfl rfl rfl (by decide +kernel) ⟨Nat.le_of_ble_eq_true rfl, Nat.le_of_ble_eq_true rfl⟩) (x_preV hG hw (xOh (q := 0) (by decide)) rfl) rfl rfl hl.1 rfl (lv_room (Nat.le_of_ble_eq_true rfl)) dX5_ways_27 ⟨Nat.le_of_ble_eq_true rfl, Nat.le_of_ble_eq_true rfl⟩) (fun A_5 L_6 H locs hw h => ?_)
      refine lv_aload_n hx hb dX5_ways_30 rfl (lv_at hl 0 rfl) ?_
      refine x_get (C := RX5) (T := TX5) (N := 6) hx hb hts inX5_ways_X5 hown hG hw xO0 rfl 1 (by decide) (hts (.fieldLink RX5 21 "SixNumbers" "heap" "LSixNumbers$Heap;") (List.mem_of_getElem? (i := 2) rfl)) (fun _ h9 => h9) (v := .ref (xad G (2 + 6 * 0))) rfl dX5_ways_31 ?_
      refine lv_iload_n hx hb dX5_ways_34 rfl (lv_at hl 1 rfl) ?_
      refine lv_iload_n hx hb dX5_ways_35 rfl (lv_at hl 2 rfl) ?_
      refine x_calll hG hw (va_runV (As := [.int x1, .int x2]) (rest := []) ⟨hx, hb, hml, hown, hts⟩ (c_X1_countOf (l := l) (G := G) (show 0 < 2 by decide) h) (cwV 2 hts gX5_ways_X1_countOf rfl rfl rfl (by decide +kernel) ⟨Nat.le_of_ble_eq_true rfl, Nat.le_of_ble_eq_true rfl⟩) (x_preV hG hw (xOh (q := 0) (by decide)) rfl) rfl rfl hl.1 rfl (lv_room (Nat.le_of_ble_eq_true rfl)) dX5_ways_36 ⟨Nat.le_of_ble_eq_true rfl, Nat.le_of_ble_eq_true rfl⟩) (fun r_7 A9 L9 H locs hw h => ?_)
      rw [h.2.1, h.2.2] at hw
      have h := h.1
      exact x_lret hx hb hr hlocks hG hw h dX5_ways_39
    · have h := h.2 c_4
      refine lv_ldc2 (v := (-1002 : Int64)) hx hb hown (hts _ (List.mem_of_getElem? (i := 1) rfl)) dX5_ways_19 ?_
      exact x_lret hx hb hr hlocks hG hw h dX5_ways_22
theorem c_X5_ways {l : Launch} {G : xGt} {x1 : Int32} {x2 : Int32} {A : xM} {L : xL} {post : Int64 → xM → xL → Prop} (h : v_X5_ways x1 x2 A L post) : Met l yX5_ways wsX5_ways rX5_ways (va_Pc [.ref (xad G 0), .int x1, .int x2] (xPre G A L)) (xQl G post) 0 0 (xAf G) :=
  x_met RX5 rfl (by decide) rfl (Nat.le_of_ble_eq_true rfl) (fun p e s m below meth c ls C0 hw hl => t_X5_ways_0 C0 hw hl h)
end MECH
abbrev rX5_all : Room := { frames := 4, cells := 0, slots := 0, locals := 102 }
theorem inX5_all_X5 : ∀ w ∈ wsX50, w ∈ wsX5_all := fun w h => List.mem_cons_of_mem _ (List.mem_append_left _ (List.mem_append_left _ (List.mem_append_right _ h)))
def v_X5_all (x1 : Int32) (A : xM) (L : xL) (post : Int64 → xM → xL → Prop) : Prop := v_X5_isOutside x1 (1 : Int32) (3000 : Int32) (fun (r_1 : Int32) => ((r_1 = 0 → (v_X1_refresh 0 A L (fun (A_3 : xM) (L_4 : xL) => (v_X1_countOfAllSets 0 x1 A_3 L_4 (fun (r_5 : Int64) => (post r_5 A_3 L_4)))))) ∧ (¬ r_1 = 0 → (post (-1002 : Int64) A L))))
section MECH
variable {p : Program} {l : Launch} {e : Env} {s : State} {m : MethodId} {args : Array Value} {below : List Frame} {meth : Method} {c : Code} {G : xGt}
set_option maxHeartbeats 4000000 in
set_option maxRecDepth 100000 in
theorem t_X5_all_0 (C0 : xC p s m args meth c G cX5_all (some .long) wsX5_all RX5 2) {post : Int64 → xM → xL → Prop} {x1 : Int32} {A : xM} {L : xL} {H : Heap} {locs : List Loc} {ls : Array Slot} (hw : xW G s.heap A L H locs) (hl : lv_has ls 2 [(0, .ref (xad G 0)), (1, .int x1)]) (h : v_X5_all x1 A L post) : W p l e rX5_all s m args below meth c H locs 0 0 (MQ below (xQl G post) args s 0 0 (xAf G)) (F0 m 0 ls []) := by
  obtain ⟨hx, hb, hr, hts, hown, hml, hlocks, hG⟩ := id C0
  unfold v_X5_all at h
  refine lv_iload_n hx hb dX5_all_0 rfl (lv_at hl 1 rfl) ?_
  refine lv_iconst (v := 1) hx hb dX5_all_1 (by decide) ?_
  refine lv_sipush (v := 3000) hx hb dX5_all_2 (by decide) ?_
  refine x_calli hG hw (va_runS (As := [.int x1, .int (1 : Int32), .int (3000 : Int32)]) (rest := []) ⟨hx, hb, hml, hown, hts⟩ (c_X5_isOutside (l := l) (G := G) h) (va_cwS 3 hts gX5_all_X5_isOutside rfl rfl rfl (by decide +kernel) ⟨Nat.le_of_ble_eq_true rfl, Nat.le_of_ble_eq_true rfl⟩) (x_preS hG hw) rfl rfl hl.1 rfl (lv_room (Nat.le_of_ble_eq_true rfl)) dX5_all_5 ⟨Nat.le_of_ble_eq_true rfl, Nat.le_of_ble_eq_true rfl⟩) (fun r_1 A9 L9 H locs hw h => ?_)
  rw [h.2.1, h.2.2] at hw
  have h := h.1
  refine lv_if_eq (tgt := 15) hx hb dX5_all_8 (by decide) (fun c_2 => ?_) (fun c_2 => ?_)
  · have h := h.1 c_2
    refine lv_aload_n hx hb dX5_all_15 rfl (lv_at hl 0 rfl) ?_
    refine x_get (C := RX5) (T := TX5) (N := 6) hx hb hts inX5_all_X5 hown hG hw xO0 rfl 1 (by decide) (hts (.fieldLink RX5 21 "SixNumbers" "heap" "LSixNumbers$Heap;") (List.mem_of_getElem? (i := 2) rfl)) (fun _ h9 => h9) (v := .ref (xad G (2 + 6 * 0))) rfl dX5_all_16 ?_
    refine x_callv hG hw (va_runV (As := []) (rest := []) ⟨hx, hb, hml, hown, hts⟩ (c_X1_refresh (l := l) (G := G) (show 0 < 2 by decide) h) (cwV 0 hts gX5_all_X1_refresh rfl rfl rfl (by decide +kernel) ⟨Nat.le_of_ble_eq_true rfl, Nat.le_of_ble_eq_true rfl⟩) (x_preV hG hw (xOh (q := 0) (by decide)) rfl) rfl rfl hl.1 rfl (lv_room (Nat.le_of_ble_eq_true rfl)) dX5_all_19 ⟨Nat.le_of_ble_eq_true rfl, Nat.le_of_ble_eq_true rfl⟩) (fun A_3 L_4 H locs hw h => ?_)
    refine lv_aload_n hx hb dX5_all_22 rfl (lv_at hl 0 rfl) ?_
    refine x_get (C := RX5) (T := TX5) (N := 6) hx hb hts inX5_all_X5 hown hG hw xO0 rfl 1 (by decide) (hts (.fieldLink RX5 21 "SixNumbers" "heap" "LSixNumbers$Heap;") (List.mem_of_getElem? (i := 2) rfl)) (fun _ h9 => h9) (v := .ref (xad G (2 + 6 * 0))) rfl dX5_all_23 ?_
    refine lv_iload_n hx hb dX5_all_26 rfl (lv_at hl 1 rfl) ?_
    refine x_calll hG hw (va_runV (As := [.int x1]) (rest := []) ⟨hx, hb, hml, hown, hts⟩ (c_X1_countOfAllSets (l := l) (G := G) (show 0 < 2 by decide) h) (cwV 1 hts gX5_all_X1_countOfAllSets rfl rfl rfl (by decide +kernel) ⟨Nat.le_of_ble_eq_true rfl, Nat.le_of_ble_eq_true rfl⟩) (x_preV hG hw (xOh (q := 0) (by decide)) rfl) rfl rfl hl.1 rfl (lv_room (Nat.le_of_ble_eq_true rfl)) dX5_all_27 ⟨Nat.le_of_ble_eq_true rfl, Nat.le_of_ble_eq_true rfl⟩) (fun r_5 A9 L9 H locs hw h => ?_)
    rw [h.2.1, h.2.2] at hw
    have h := h.1
    exact x_lret hx hb hr hlocks hG hw h dX5_all_30
  · have h := h.2 c_2
    refine lv_ldc2 (v := (-1002 : Int64)) hx hb hown (hts _ (List.mem_of_getElem? (i := 1) rfl)) dX5_all_11 ?_
    exact x_lret hx hb hr hlocks hG hw h dX5_all_14
theorem c_X5_all {l : Launch} {G : xGt} {x1 : Int32} {A : xM} {L : xL} {post : Int64 → xM → xL → Prop} (h : v_X5_all x1 A L post) : Met l yX5_all wsX5_all rX5_all (va_Pc [.ref (xad G 0), .int x1] (xPre G A L)) (xQl G post) 0 0 (xAf G) :=
  x_met RX5 rfl (by decide) rfl (Nat.le_of_ble_eq_true rfl) (fun p e s m below meth c ls C0 hw hl => t_X5_all_0 C0 hw hl h)
end MECH
abbrev rX5_reached : Room := { frames := 4, cells := 0, slots := 0, locals := 102 }
theorem inX5_reached_X5 : ∀ w ∈ wsX50, w ∈ wsX5_reached := fun w h => List.mem_cons_of_mem _ (List.mem_append_left _ (List.mem_append_left _ (List.mem_append_right _ h)))
def v_X5_reached (x1 : Int32) (A : xM) (L : xL) (post : Int32 → xM → xL → Prop) : Prop := v_X1_knows 0 x1 A L (fun (r_1 : Int32) => ((¬ r_1 = 0 → (v_X1_refresh 0 A L (fun (A_3 : xM) (L_4 : xL) => (v_X1_numbersOf 0 x1 A_3 L_4 (fun (r_5 : Int32) => (post r_5 A_3 L_4)))))) ∧ (r_1 = 0 → (post (-1002 : Int32) A L))))
section MECH
variable {p : Program} {l : Launch} {e : Env} {s : State} {m : MethodId} {args : Array Value} {below : List Frame} {meth : Method} {c : Code} {G : xGt}
set_option maxHeartbeats 4000000 in
set_option maxRecDepth 100000 in
theorem t_X5_reached_0 (C0 : xC p s m args meth c G cX5_reached (some .int) wsX5_reached RX5 2) {post : Int32 → xM → xL → Prop} {x1 : Int32} {A : xM} {L : xL} {H : Heap} {locs : List Loc} {ls : Array Slot} (hw : xW G s.heap A L H locs) (hl : lv_has ls 2 [(0, .ref (xad G 0)), (1, .int x1)]) (h : v_X5_reached x1 A L post) : W p l e rX5_reached s m args below meth c H locs 0 0 (MQ below (xQi G post) args s 0 0 (xAf G)) (F0 m 0 ls []) := by
  obtain ⟨hx, hb, hr, hts, hown, hml, hlocks, hG⟩ := id C0
  unfold v_X5_reached at h
  refine lv_aload_n hx hb dX5_reached_0 rfl (lv_at hl 0 rfl) ?_
  refine x_get (C := RX5) (T := TX5) (N := 6) hx hb hts inX5_reached_X5 hown hG hw xO0 rfl 1 (by decide) (hts (.fieldLink RX5 21 "SixNumbers" "heap" "LSixNumbers$Heap;") (List.mem_of_getElem? (i := 1) rfl)) (fun _ h9 => h9) (v := .ref (xad G (2 + 6 * 0))) rfl dX5_reached_1 ?_
  refine lv_iload_n hx hb dX5_reached_4 rfl (lv_at hl 1 rfl) ?_
  refine x_calli hG hw (va_runV (As := [.int x1]) (rest := []) ⟨hx, hb, hml, hown, hts⟩ (c_X1_knows (l := l) (G := G) (show 0 < 2 by decide) h) (cwV 1 hts gX5_reached_X1_knows rfl rfl rfl (by decide +kernel) ⟨Nat.le_of_ble_eq_true rfl, Nat.le_of_ble_eq_true rfl⟩) (x_preV hG hw (xOh (q := 0) (by decide)) rfl) rfl rfl hl.1 rfl (lv_room (Nat.le_of_ble_eq_true rfl)) dX5_reached_5 ⟨Nat.le_of_ble_eq_true rfl, Nat.le_of_ble_eq_true rfl⟩) (fun r_1 A9 L9 H locs hw h => ?_)
  rw [h.2.1, h.2.2] at hw
  have h := h.1
  refine lv_if_ne (tgt := 15) hx hb dX5_reached_8 (by decide) (fun c_2 => ?_) (fun c_2 => ?_)
  · have h := h.1 c_2
    refine lv_aload_n hx hb dX5_reached_15 rfl (lv_at hl 0 rfl) ?_
    refine x_get (C := RX5) (T := TX5) (N := 6) hx hb hts inX5_reached_X5 hown hG hw xO0 rfl 1 (by decide) (hts (.fieldLink RX5 21 "SixNumbers" "heap" "LSixNumbers$Heap;") (List.mem_of_getElem? (i := 1) rfl)) (fun _ h9 => h9) (v := .ref (xad G (2 + 6 * 0))) rfl dX5_reached_16 ?_
    refine x_callv hG hw (va_runV (As := []) (rest := []) ⟨hx, hb, hml, hown, hts⟩ (c_X1_refresh (l := l) (G := G) (show 0 < 2 by decide) h) (cwV 0 hts gX5_reached_X1_refresh rfl rfl rfl (by decide +kernel) ⟨Nat.le_of_ble_eq_true rfl, Nat.le_of_ble_eq_true rfl⟩) (x_preV hG hw (xOh (q := 0) (by decide)) rfl) rfl rfl hl.1 rfl (lv_room (Nat.le_of_ble_eq_true rfl)) dX5_reached_19 ⟨Nat.le_of_ble_eq_true rfl, Nat.le_of_ble_eq_true rfl⟩) (fun A_3 L_4 H locs hw h => ?_)
    refine lv_aload_n hx hb dX5_reached_22 rfl (lv_at hl 0 rfl) ?_
    refine x_get (C := RX5) (T := TX5) (N := 6) hx hb hts inX5_reached_X5 hown hG hw xO0 rfl 1 (by decide) (hts (.fieldLink RX5 21 "SixNumbers" "heap" "LSixNumbers$Heap;") (List.mem_of_getElem? (i := 1) rfl)) (fun _ h9 => h9) (v := .ref (xad G (2 + 6 * 0))) rfl dX5_reached_23 ?_
    refine lv_iload_n hx hb dX5_reached_26 rfl (lv_at hl 1 rfl) ?_
    refine x_calli hG hw (va_runV (As := [.int x1]) (rest := []) ⟨hx, hb, hml, hown, hts⟩ (c_X1_numbersOf (l := l) (G := G) (show 0 < 2 by decide) h) (cwV 1 hts gX5_reached_X1_numbersOf rfl rfl rfl (by decide +kernel) ⟨Nat.le_of_ble_eq_true rfl, Nat.le_of_ble_eq_true rfl⟩) (x_preV hG hw (xOh (q := 0) (by decide)) rfl) rfl rfl hl.1 rfl (lv_room (Nat.le_of_ble_eq_true rfl)) dX5_reached_27 ⟨Nat.le_of_ble_eq_true rfl, Nat.le_of_ble_eq_true rfl⟩) (fun r_5 A9 L9 H locs hw h => ?_)
    rw [h.2.1, h.2.2] at hw
    have h := h.1
    exact x_iret hx hb hr hlocks hG hw h dX5_reached_30
  · have h := h.2 c_2
    refine lv_sipush (v := (-1002)) hx hb dX5_reached_11 (by decide) ?_
    exact x_iret hx hb hr hlocks hG hw h dX5_reached_14
theorem c_X5_reached {l : Launch} {G : xGt} {x1 : Int32} {A : xM} {L : xL} {post : Int32 → xM → xL → Prop} (h : v_X5_reached x1 A L post) : Met l yX5_reached wsX5_reached rX5_reached (va_Pc [.ref (xad G 0), .int x1] (xPre G A L)) (xQi G post) 0 0 (xAf G) :=
  x_met RX5 rfl (by decide) rfl (Nat.le_of_ble_eq_true rfl) (fun p e s m below meth c ls C0 hw hl => t_X5_reached_0 C0 hw hl h)
end MECH
abbrev rX5_value : Room := { frames := 4, cells := 0, slots := 0, locals := 102 }
theorem inX5_value_X5 : ∀ w ∈ wsX50, w ∈ wsX5_value := fun w h => List.mem_cons_of_mem _ (List.mem_append_left _ (List.mem_append_left _ (List.mem_append_right _ h)))
def v_X5_value (x1 : Int32) (x2 : Int32) (A : xM) (L : xL) (post : Int32 → xM → xL → Prop) : Prop := v_X1_knows 0 x1 A L (fun (r_1 : Int32) => ((¬ r_1 = 0 → (v_X1_refresh 0 A L (fun (A_3 : xM) (L_4 : xL) => (v_X1_numberAt 0 x1 x2 A_3 L_4 (fun (r_5 : Int32) => (post r_5 A_3 L_4)))))) ∧ (r_1 = 0 → (post (-1002 : Int32) A L))))
section MECH
variable {p : Program} {l : Launch} {e : Env} {s : State} {m : MethodId} {args : Array Value} {below : List Frame} {meth : Method} {c : Code} {G : xGt}
set_option maxHeartbeats 4000000 in
set_option maxRecDepth 100000 in
theorem t_X5_value_0 (C0 : xC p s m args meth c G cX5_value (some .int) wsX5_value RX5 3) {post : Int32 → xM → xL → Prop} {x1 : Int32} {x2 : Int32} {A : xM} {L : xL} {H : Heap} {locs : List Loc} {ls : Array Slot} (hw : xW G s.heap A L H locs) (hl : lv_has ls 3 [(0, .ref (xad G 0)), (1, .int x1), (2, .int x2)]) (h : v_X5_value x1 x2 A L post) : W p l e rX5_value s m args below meth c H locs 0 0 (MQ below (xQi G post) args s 0 0 (xAf G)) (F0 m 0 ls []) := by
  obtain ⟨hx, hb, hr, hts, hown, hml, hlocks, hG⟩ := id C0
  unfold v_X5_value at h
  refine lv_aload_n hx hb dX5_value_0 rfl (lv_at hl 0 rfl) ?_
  refine x_get (C := RX5) (T := TX5) (N := 6) hx hb hts inX5_value_X5 hown hG hw xO0 rfl 1 (by decide) (hts (.fieldLink RX5 21 "SixNumbers" "heap" "LSixNumbers$Heap;") (List.mem_of_getElem? (i := 1) rfl)) (fun _ h9 => h9) (v := .ref (xad G (2 + 6 * 0))) rfl dX5_value_1 ?_
  refine lv_iload_n hx hb dX5_value_4 rfl (lv_at hl 1 rfl) ?_
  refine x_calli hG hw (va_runV (As := [.int x1]) (rest := []) ⟨hx, hb, hml, hown, hts⟩ (c_X1_knows (l := l) (G := G) (show 0 < 2 by decide) h) (cwV 1 hts gX5_value_X1_knows rfl rfl rfl (by decide +kernel) ⟨Nat.le_of_ble_eq_true rfl, Nat.le_of_ble_eq_true rfl⟩) (x_preV hG hw (xOh (q := 0) (by decide)) rfl) rfl rfl hl.1 rfl (lv_room (Nat.le_of_ble_eq_true rfl)) dX5_value_5 ⟨Nat.le_of_ble_eq_true rfl, Nat.le_of_ble_eq_true rfl⟩) (fun r_1 A9 L9 H locs hw h => ?_)
  rw [h.2.1, h.2.2] at hw
  have h := h.1
  refine lv_if_ne (tgt := 15) hx hb dX5_value_8 (by decide) (fun c_2 => ?_) (fun c_2 => ?_)
  · have h := h.1 c_2
    refine lv_aload_n hx hb dX5_value_15 rfl (lv_at hl 0 rfl) ?_
    refine x_get (C := RX5) (T := TX5) (N := 6) hx hb hts inX5_value_X5 hown hG hw xO0 rfl 1 (by decide) (hts (.fieldLink RX5 21 "SixNumbers" "heap" "LSixNumbers$Heap;") (List.mem_of_getElem? (i := 1) rfl)) (fun _ h9 => h9) (v := .ref (xad G (2 + 6 * 0))) rfl dX5_value_16 ?_
    refine x_callv hG hw (va_runV (As := []) (rest := []) ⟨hx, hb, hml, hown, hts⟩ (c_X1_refresh (l := l) (G := G) (show 0 < 2 by decide) h) (cwV 0 hts gX5_value_X1_refresh rfl rfl rfl (by decide +kernel) ⟨Nat.le_of_ble_eq_true rfl, Nat.le_of_ble_eq_true rfl⟩) (x_preV hG hw (xOh (q := 0) (by decide)) rfl) rfl rfl hl.1 rfl (lv_room (Nat.le_of_ble_eq_true rfl)) dX5_value_19 ⟨Nat.le_of_ble_eq_true rfl, Nat.le_of_ble_eq_true rfl⟩) (fun A_3 L_4 H locs hw h => ?_)
    refine lv_aload_n hx hb dX5_value_22 rfl (lv_at hl 0 rfl) ?_
    refine x_get (C := RX5) (T := TX5) (N := 6) hx hb hts inX5_value_X5 hown hG hw xO0 rfl 1 (by decide) (hts (.fieldLink RX5 21 "SixNumbers" "heap" "LSixNumbers$Heap;") (List.mem_of_getElem? (i := 1) rfl)) (fun _ h9 => h9) (v := .ref (xad G (2 + 6 * 0))) rfl dX5_value_23 ?_
    refine lv_iload_n hx hb dX5_value_26 rfl (lv_at hl 1 rfl) ?_
    refine lv_iload_n hx hb dX5_value_27 rfl (lv_at hl 2 rfl) ?_
    refine x_calli hG hw (va_runV (As := [.int x1, .int x2]) (rest := []) ⟨hx, hb, hml, hown, hts⟩ (c_X1_numberAt (l := l) (G := G) (show 0 < 2 by decide) h) (cwV 2 hts gX5_value_X1_numberAt rfl rfl rfl (by decide +kernel) ⟨Nat.le_of_ble_eq_true rfl, Nat.le_of_ble_eq_true rfl⟩) (x_preV hG hw (xOh (q := 0) (by decide)) rfl) rfl rfl hl.1 rfl (lv_room (Nat.le_of_ble_eq_true rfl)) dX5_value_28 ⟨Nat.le_of_ble_eq_true rfl, Nat.le_of_ble_eq_true rfl⟩) (fun r_5 A9 L9 H locs hw h => ?_)
    rw [h.2.1, h.2.2] at hw
    have h := h.1
    exact x_iret hx hb hr hlocks hG hw h dX5_value_31
  · have h := h.2 c_2
    refine lv_sipush (v := (-1002)) hx hb dX5_value_11 (by decide) ?_
    exact x_iret hx hb hr hlocks hG hw h dX5_value_14
theorem c_X5_value {l : Launch} {G : xGt} {x1 : Int32} {x2 : Int32} {A : xM} {L : xL} {post : Int32 → xM → xL → Prop} (h : v_X5_value x1 x2 A L post) : Met l yX5_value wsX5_value rX5_value (va_Pc [.ref (xad G 0), .int x1, .int x2] (xPre G A L)) (xQi G post) 0 0 (xAf G) :=
  x_met RX5 rfl (by decide) rfl (Nat.le_of_ble_eq_true rfl) (fun p e s m below meth c ls C0 hw hl => t_X5_value_0 C0 hw hl h)
end MECH
abbrev rX5_missing : Room := { frames := 4, cells := 0, slots := 0, locals := 102 }
theorem inX5_missing_X5 : ∀ w ∈ wsX50, w ∈ wsX5_missing := fun w h => List.mem_cons_of_mem _ (List.mem_append_left _ (List.mem_append_left _ (List.mem_append_right _ h)))
def v_X5_missing (A : xM) (L : xL) (post : Int32 → xM → xL → Prop) : Prop := v_X1_refresh 0 A L (fun (A_1 : xM) (L_2 : xL) => (v_X1_leastNotReached 0 A_1 L_2 (fun (r_3 : Int32) => (post r_3 A_1 L_2))))
section MECH
variable {p : Program} {l : Launch} {e : Env} {s : State} {m : MethodId} {args : Array Value} {below : List Frame} {meth : Method} {c : Code} {G : xGt}
set_option maxHeartbeats 4000000 in
set_option maxRecDepth 100000 in
theorem t_X5_missing_0 (C0 : xC p s m args meth c G cX5_missing (some .int) wsX5_missing RX5 1) {post : Int32 → xM → xL → Prop} {A : xM} {L : xL} {H : Heap} {locs : List Loc} {ls : Array Slot} (hw : xW G s.heap A L H locs) (hl : lv_has ls 1 [(0, .ref (xad G 0))]) (h : v_X5_missing A L post) : W p l e rX5_missing s m args below meth c H locs 0 0 (MQ below (xQi G post) args s 0 0 (xAf G)) (F0 m 0 ls []) := by
  obtain ⟨hx, hb, hr, hts, hown, hml, hlocks, hG⟩ := id C0
  unfold v_X5_missing at h
  refine lv_aload_n hx hb dX5_missing_0 rfl (lv_at hl 0 rfl) ?_
  refine x_get (C := RX5) (T := TX5) (N := 6) hx hb hts inX5_missing_X5 hown hG hw xO0 rfl 1 (by decide) (hts (.fieldLink RX5 21 "SixNumbers" "heap" "LSixNumbers$Heap;") (List.mem_of_getElem? (i := 1) rfl)) (fun _ h9 => h9) (v := .ref (xad G (2 + 6 * 0))) rfl dX5_missing_1 ?_
  refine x_callv hG hw (va_runV (As := []) (rest := []) ⟨hx, hb, hml, hown, hts⟩ (c_X1_refresh (l := l) (G := G) (show 0 < 2 by decide) h) (cwV 0 hts gX5_missing_X1_refresh rfl rfl rfl (by decide +kernel) ⟨Nat.le_of_ble_eq_true rfl, Nat.le_of_ble_eq_true rfl⟩) (x_preV hG hw (xOh (q := 0) (by decide)) rfl) rfl rfl hl.1 rfl (lv_room (Nat.le_of_ble_eq_true rfl)) dX5_missing_4 ⟨Nat.le_of_ble_eq_true rfl, Nat.le_of_ble_eq_true rfl⟩) (fun A_1 L_2 H locs hw h => ?_)
  refine lv_aload_n hx hb dX5_missing_7 rfl (lv_at hl 0 rfl) ?_
  refine x_get (C := RX5) (T := TX5) (N := 6) hx hb hts inX5_missing_X5 hown hG hw xO0 rfl 1 (by decide) (hts (.fieldLink RX5 21 "SixNumbers" "heap" "LSixNumbers$Heap;") (List.mem_of_getElem? (i := 1) rfl)) (fun _ h9 => h9) (v := .ref (xad G (2 + 6 * 0))) rfl dX5_missing_8 ?_
  refine x_calli hG hw (va_runV (As := []) (rest := []) ⟨hx, hb, hml, hown, hts⟩ (c_X1_leastNotReached (l := l) (G := G) (show 0 < 2 by decide) h) (cwV 0 hts gX5_missing_X1_leastNotReached rfl rfl rfl (by decide +kernel) ⟨Nat.le_of_ble_eq_true rfl, Nat.le_of_ble_eq_true rfl⟩) (x_preV hG hw (xOh (q := 0) (by decide)) rfl) rfl rfl hl.1 rfl (lv_room (Nat.le_of_ble_eq_true rfl)) dX5_missing_11 ⟨Nat.le_of_ble_eq_true rfl, Nat.le_of_ble_eq_true rfl⟩) (fun r_3 A9 L9 H locs hw h => ?_)
  rw [h.2.1, h.2.2] at hw
  have h := h.1
  exact x_iret hx hb hr hlocks hG hw h dX5_missing_14
theorem c_X5_missing {l : Launch} {G : xGt} {A : xM} {L : xL} {post : Int32 → xM → xL → Prop} (h : v_X5_missing A L post) : Met l yX5_missing wsX5_missing rX5_missing (va_Pc [.ref (xad G 0)] (xPre G A L)) (xQi G post) 0 0 (xAf G) :=
  x_met RX5 rfl (by decide) rfl (Nat.le_of_ble_eq_true rfl) (fun p e s m below meth c ls C0 hw hl => t_X5_missing_0 C0 hw hl h)
end MECH
abbrev rX5_aim : Room := { frames := 4, cells := 0, slots := 0, locals := 102 }
theorem inX5_aim_X5 : ∀ w ∈ wsX50, w ∈ wsX5_aim := fun w h => List.mem_cons_of_mem _ (List.mem_append_left _ (List.mem_append_left _ (List.mem_append_right _ h)))
def v_X5_aim (x1 : Int32) (x2 : Int32) (A : xM) (L : xL) (post : Int32 → xM → xL → Prop) : Prop := v_X5_isOutside x1 (1 : Int32) (3000 : Int32) (fun (r_1 : Int32) => ((¬ r_1 = 0 → (post (-1002 : Int32) A L)) ∧ (r_1 = 0 → (v_X5_isOutside x2 (0 : Int32) (3 : Int32) (fun (r_3 : Int32) => ((r_3 = 0 → (v_X1_refresh 0 A L (fun (A_5 : xM) (L_6 : xL) => ((x2.toInt < 0 ∨ 2 < x2.toInt → (v_X1_nearest 0 x1 A_5 L_6 (fun (r_8 : Int32) => (post r_8 A_5 L_6)))) ∧ (x2 = (0 : Int32) → (v_X1_reaches 0 x1 A_5 L_6 (fun (r_9 : Int32) => ((r_9 = 0 → (post (0 : Int32) A_5 L_6)) ∧ (¬ r_9 = 0 → (post (1 : Int32) A_5 L_6)))))) ∧ (x2 = (1 : Int32) → (v_X1_reaches 0 x1 A_5 L_6 (fun (r_11 : Int32) => ((r_11 = 0 → (post (-1 : Int32) A_5 L_6)) ∧ (¬ r_11 = 0 → (v_X1_firstSet 0 x1 A_5 L_6 (fun (r_13 : Int32) => (v_J6_bitCount_0f7a4 r_13 (fun (r_14 : Int32) => (post r_14 A_5 L_6)))))))))) ∧ (x2 = (2 : Int32) → (v_X1_firstSet 0 x1 A_5 L_6 (fun (r_15 : Int32) => (post r_15 A_5 L_6)))))))) ∧ (¬ r_3 = 0 → (post (-1002 : Int32) A L))))))))
section MECH
variable {p : Program} {l : Launch} {e : Env} {s : State} {m : MethodId} {args : Array Value} {below : List Frame} {meth : Method} {c : Code} {G : xGt}
set_option maxHeartbeats 4000000 in
set_option maxRecDepth 100000 in
theorem t_X5_aim_0 (C0 : xC p s m args meth c G cX5_aim (some .int) wsX5_aim RX5 3) {post : Int32 → xM → xL → Prop} {x1 : Int32} {x2 : Int32} {A : xM} {L : xL} {H : Heap} {locs : List Loc} {ls : Array Slot} (hw : xW G s.heap A L H locs) (hl : lv_has ls 3 [(0, .ref (xad G 0)), (1, .int x1), (2, .int x2)]) (h : v_X5_aim x1 x2 A L post) : W p l e rX5_aim s m args below meth c H locs 0 0 (MQ below (xQi G post) args s 0 0 (xAf G)) (F0 m 0 ls []) := by
  obtain ⟨hx, hb, hr, hts, hown, hml, hlocks, hG⟩ := id C0
  unfold v_X5_aim at h
  refine lv_iload_n hx hb dX5_aim_0 rfl (lv_at hl 1 rfl) ?_
  refine lv_iconst (v := 1) hx hb dX5_aim_1 (by decide) ?_
  refine lv_sipush (v := 3000) hx hb dX5_aim_2 (by decide) ?_
  refine x_calli hG hw (va_runS (As := [.int x1, .int (1 : Int32), .int (3000 : Int32)]) (rest := []) ⟨hx, hb, hml, hown, hts⟩ (c_X5_isOutside (l := l) (G := G) h) (va_cwS 3 hts gX5_aim_X5_isOutside rfl rfl rfl (by decide +kernel) ⟨Nat.le_of_ble_eq_true rfl, Nat.le_of_ble_eq_true rfl⟩) (x_preS hG hw) rfl rfl hl.1 rfl (lv_room (Nat.le_of_ble_eq_true rfl)) dX5_aim_5 ⟨Nat.le_of_ble_eq_true rfl, Nat.le_of_ble_eq_true rfl⟩) (fun r_1 A9 L9 H locs hw h => ?_)
  rw [h.2.1, h.2.2] at hw
  have h := h.1
  refine lv_if_ne (tgt := 20) hx hb dX5_aim_8 (by decide) (fun c_2 => ?_) (fun c_2 => ?_)
  · have h := h.1 c_2
    refine lv_sipush (v := (-1002)) hx hb dX5_aim_20 (by decide) ?_
    exact x_iret hx hb hr hlocks hG hw h dX5_aim_23
  · have h := h.2 c_2
    refine lv_iload_n hx hb dX5_aim_11 rfl (lv_at hl 2 rfl) ?_
    refine lv_iconst (v := 0) hx hb dX5_aim_12 (by decide) ?_
    refine lv_iconst (v := 3) hx hb dX5_aim_13 (by decide) ?_
    refine x_calli hG hw (va_runS (As := [.int x2, .int (0 : Int32), .int (3 : Int32)]) (rest := []) ⟨hx, hb, hml, hown, hts⟩ (c_X5_isOutside (l := l) (G := G) h) (va_cwS 3 hts gX5_aim_X5_isOutside rfl rfl rfl (by decide +kernel) ⟨Nat.le_of_ble_eq_true rfl, Nat.le_of_ble_eq_true rfl⟩) (x_preS hG hw) rfl rfl hl.1 rfl (lv_room (Nat.le_of_ble_eq_true rfl)) dX5_aim_14 ⟨Nat.le_of_ble_eq_true rfl, Nat.le_of_ble_eq_true rfl⟩) (fun r_3 A9 L9 H locs hw h => ?_)
    rw [h.2.1, h.2.2] at hw
    have h := h.1
    refine lv_if_eq (tgt := 24) hx hb dX5_aim_17 (by decide) (fun c_4 => ?_) (fun c_4 => ?_)
    · have h := h.1 c_4
      refine lv_aload_n hx hb dX5_aim_24 rfl (lv_at hl 0 rfl) ?_
      refine x_get (C := RX5) (T := TX5) (N := 6) hx hb hts inX5_aim_X5 hown hG hw xO0 rfl 1 (by decide) (hts (.fieldLink RX5 21 "SixNumbers" "heap" "LSixNumbers$Heap;") (List.mem_of_getElem? (i := 1) rfl)) (fun _ h9 => h9) (v := .ref (xad G (2 + 6 * 0))) rfl dX5_aim_25 ?_
      refine x_callv hG hw (va_runV (As := []) (rest := []) ⟨hx, hb, hml, hown, hts⟩ (c_X1_refresh (l := l) (G := G) (show 0 < 2 by decide) h) (cwV 0 hts gX5_aim_X1_refresh rfl rfl rfl (by decide +kernel) ⟨Nat.le_of_ble_eq_true rfl, Nat.le_of_ble_eq_true rfl⟩) (x_preV hG hw (xOh (q := 0) (by decide)) rfl) rfl rfl hl.1 rfl (lv_room (Nat.le_of_ble_eq_true rfl)) dX5_aim_28 ⟨Nat.le_of_ble_eq_true rfl, Nat.le_of_ble_eq_true rfl⟩) (fun A_5 L_6 H locs hw h => ?_)
      refine lv_iload_n hx hb dX5_aim_31 rfl (lv_at hl 2 rfl) ?_
      by_cases c_7 : x2.toInt < 0 ∨ 2 < x2.toInt
      · have h := h.1 c_7
        refine lv_tableOut (tgt := 113) hx hb dX5_aim_32 c_7 (by decide) ?_
        refine lv_aload_n hx hb dX5_aim_113 rfl (lv_at hl 0 rfl) ?_
        refine x_get (C := RX5) (T := TX5) (N := 6) hx hb hts inX5_aim_X5 hown hG hw xO0 rfl 1 (by decide) (hts (.fieldLink RX5 21 "SixNumbers" "heap" "LSixNumbers$Heap;") (List.mem_of_getElem? (i := 1) rfl)) (fun _ h9 => h9) (v := .ref (xad G (2 + 6 * 0))) rfl dX5_aim_114 ?_
        refine lv_iload_n hx hb dX5_aim_117 rfl (lv_at hl 1 rfl) ?_
        refine x_calli hG hw (va_runV (As := [.int x1]) (rest := []) ⟨hx, hb, hml, hown, hts⟩ (c_X1_nearest (l := l) (G := G) (show 0 < 2 by decide) h) (cwV 1 hts gX5_aim_X1_nearest rfl rfl rfl (by decide +kernel) ⟨Nat.le_of_ble_eq_true rfl, Nat.le_of_ble_eq_true rfl⟩) (x_preV hG hw (xOh (q := 0) (by decide)) rfl) rfl rfl hl.1 rfl (lv_room (Nat.le_of_ble_eq_true rfl)) dX5_aim_118 ⟨Nat.le_of_ble_eq_true rfl, Nat.le_of_ble_eq_true rfl⟩) (fun r_8 A9 L9 H locs hw h => ?_)
        rw [h.2.1, h.2.2] at hw
        have h := h.1
        exact x_iret hx hb hr hlocks hG hw h dX5_aim_121
      · rcases (show x2.toInt = 0 ∨ x2.toInt = 1 ∨ x2.toInt = 2 by omega) with c8 | c8 | c8
        · have c9 : x2 = (0 : Int32) := Int32.toInt_inj.mp (c8.trans (by decide))
          have h := h.2.1 c9
          refine lv_tableIn (tgt := 60) hx hb dX5_aim_32 (by omega) (by omega) (by rw [c8]; rfl) (by decide) ?_
          refine lv_aload_n hx hb dX5_aim_60 rfl (lv_at hl 0 rfl) ?_
          refine x_get (C := RX5) (T := TX5) (N := 6) hx hb hts inX5_aim_X5 hown hG hw xO0 rfl 1 (by decide) (hts (.fieldLink RX5 21 "SixNumbers" "heap" "LSixNumbers$Heap;") (List.mem_of_getElem? (i := 1) rfl)) (fun _ h9 => h9) (v := .ref (xad G (2 + 6 * 0))) rfl dX5_aim_61 ?_
          refine lv_iload_n hx hb dX5_aim_64 rfl (lv_at hl 1 rfl) ?_
          refine x_calli hG hw (va_runV (As := [.int x1]) (rest := []) ⟨hx, hb, hml, hown, hts⟩ (c_X1_reaches (l := l) (G := G) (show 0 < 2 by decide) h) (cwV 1 hts gX5_aim_X1_reaches rfl rfl rfl (by decide +kernel) ⟨Nat.le_of_ble_eq_true rfl, Nat.le_of_ble_eq_true rfl⟩) (x_preV hG hw (xOh (q := 0) (by decide)) rfl) rfl rfl hl.1 rfl (lv_room (Nat.le_of_ble_eq_true rfl)) dX5_aim_65 ⟨Nat.le_of_ble_eq_true rfl, Nat.le_of_ble_eq_true rfl⟩) (fun r_9 A9 L9 H locs hw h => ?_)
          rw [h.2.1, h.2.2] at hw
          have h := h.1
          refine lv_if_eq (tgt := 75) hx hb dX5_aim_68 (by decide) (fun c_10 => ?_) (fun c_10 => ?_)
          · have h := h.1 c_10
            refine lv_iconst (v := 0) hx hb dX5_aim_75 (by decide) ?_
            exact x_iret hx hb hr hlocks hG hw h dX5_aim_76
          · have h := h.2 c_10
            refine lv_iconst (v := 1) hx hb dX5_aim_71 (by decide) ?_
            refine lv_goto (tgt := 76) hx hb dX5_aim_72 (by decide) ?_
            exact x_iret hx hb hr hlocks hG hw h dX5_aim_76
        · have c9 : x2 = (1 : Int32) := Int32.toInt_inj.mp (c8.trans (by decide))
          have h := h.2.2.1 c9
          refine lv_tableIn (tgt := 77) hx hb dX5_aim_32 (by omega) (by omega) (by rw [c8]; rfl) (by decide) ?_
          refine lv_aload_n hx hb dX5_aim_77 rfl (lv_at hl 0 rfl) ?_
          refine x_get (C := RX5) (T := TX5) (N := 6) hx hb hts inX5_aim_X5 hown hG hw xO0 rfl 1 (by decide) (hts (.fieldLink RX5 21 "SixNumbers" "heap" "LSixNumbers$Heap;") (List.mem_of_getElem? (i := 1) rfl)) (fun _ h9 => h9) (v := .ref (xad G (2 + 6 * 0))) rfl dX5_aim_78 ?_
          refine lv_iload_n hx hb dX5_aim_81 rfl (lv_at hl 1 rfl) ?_
          refine x_calli hG hw (va_runV (As := [.int x1]) (rest := []) ⟨hx, hb, hml, hown, hts⟩ (c_X1_reaches (l := l) (G := G) (show 0 < 2 by decide) h) (cwV 1 hts gX5_aim_X1_reaches rfl rfl rfl (by decide +kernel) ⟨Nat.le_of_ble_eq_true rfl, Nat.le_of_ble_eq_true rfl⟩) (x_preV hG hw (xOh (q := 0) (by decide)) rfl) rfl rfl hl.1 rfl (lv_room (Nat.le_of_ble_eq_true rfl)) dX5_aim_82 ⟨Nat.le_of_ble_eq_true rfl, Nat.le_of_ble_eq_true rfl⟩) (fun r_11 A9 L9 H locs hw h => ?_)
          rw [h.2.1, h.2.2] at hw
          have h := h.1
          refine lv_if_eq (tgt := 102) hx hb dX5_aim_85 (by decide) (fun c_12 => ?_) (fun c_12 => ?_)
          · have h := h.1 c_12
            refine lv_iconst (v := (-1)) hx hb dX5_aim_102 (by decide) ?_
            exact x_iret hx hb hr hlocks hG hw h dX5_aim_103
          · have h := h.2 c_12
            refine lv_aload_n hx hb dX5_aim_88 rfl (lv_at hl 0 rfl) ?_
            refine x_get (C := RX5) (T := TX5) (N := 6) hx hb hts inX5_aim_X5 hown hG hw xO0 rfl 1 (by decide) (hts (.fieldLink RX5 21 "SixNumbers" "heap" "LSixNumbers$Heap;") (List.mem_of_getElem? (i := 1) rfl)) (fun _ h9 => h9) (v := .ref (xad G (2 + 6 * 0))) rfl dX5_aim_89 ?_
            refine lv_iload_n hx hb dX5_aim_92 rfl (lv_at hl 1 rfl) ?_
            refine x_calli hG hw (va_runV (As := [.int x1]) (rest := []) ⟨hx, hb, hml, hown, hts⟩ (c_X1_firstSet (l := l) (G := G) (show 0 < 2 by decide) h) (cwV 1 hts gX5_aim_X1_firstSet rfl rfl rfl (by decide +kernel) ⟨Nat.le_of_ble_eq_true rfl, Nat.le_of_ble_eq_true rfl⟩) (x_preV hG hw (xOh (q := 0) (by decide)) rfl) rfl rfl hl.1 rfl (lv_room (Nat.le_of_ble_eq_true rfl)) dX5_aim_93 ⟨Nat.le_of_ble_eq_true rfl, Nat.le_of_ble_eq_true rfl⟩) (fun r_13 A9 L9 H locs hw h => ?_)
            rw [h.2.1, h.2.2] at hw
            have h := h.1
            refine x_calli hG hw (va_runS (As := [.int r_13]) (rest := []) ⟨hx, hb, hml, hown, hts⟩ (c_J6_bitCount_0f7a4 (l := l) (G := G) h) (va_cwS 1 hts gX5_aim_J6_bitCount_0f7a4 rfl rfl rfl (by decide +kernel) ⟨Nat.le_of_ble_eq_true rfl, Nat.le_of_ble_eq_true rfl⟩) (x_preS hG hw) rfl rfl hl.1 rfl (lv_room (Nat.le_of_ble_eq_true rfl)) dX5_aim_96 ⟨Nat.le_of_ble_eq_true rfl, Nat.le_of_ble_eq_true rfl⟩) (fun r_14 A9 L9 H locs hw h => ?_)
            rw [h.2.1, h.2.2] at hw
            have h := h.1
            refine lv_goto (tgt := 103) hx hb dX5_aim_99 (by decide) ?_
            exact x_iret hx hb hr hlocks hG hw h dX5_aim_103
        · have c9 : x2 = (2 : Int32) := Int32.toInt_inj.mp (c8.trans (by decide))
          have h := h.2.2.2 c9
          refine lv_tableIn (tgt := 104) hx hb dX5_aim_32 (by omega) (by omega) (by rw [c8]; rfl) (by decide) ?_
          refine lv_aload_n hx hb dX5_aim_104 rfl (lv_at hl 0 rfl) ?_
          refine x_get (C := RX5) (T := TX5) (N := 6) hx hb hts inX5_aim_X5 hown hG hw xO0 rfl 1 (by decide) (hts (.fieldLink RX5 21 "SixNumbers" "heap" "LSixNumbers$Heap;") (List.mem_of_getElem? (i := 1) rfl)) (fun _ h9 => h9) (v := .ref (xad G (2 + 6 * 0))) rfl dX5_aim_105 ?_
          refine lv_iload_n hx hb dX5_aim_108 rfl (lv_at hl 1 rfl) ?_
          refine x_calli hG hw (va_runV (As := [.int x1]) (rest := []) ⟨hx, hb, hml, hown, hts⟩ (c_X1_firstSet (l := l) (G := G) (show 0 < 2 by decide) h) (cwV 1 hts gX5_aim_X1_firstSet rfl rfl rfl (by decide +kernel) ⟨Nat.le_of_ble_eq_true rfl, Nat.le_of_ble_eq_true rfl⟩) (x_preV hG hw (xOh (q := 0) (by decide)) rfl) rfl rfl hl.1 rfl (lv_room (Nat.le_of_ble_eq_true rfl)) dX5_aim_109 ⟨Nat.le_of_ble_eq_true rfl, Nat.le_of_ble_eq_true rfl⟩) (fun r_15 A9 L9 H locs hw h => ?_)
          rw [h.2.1, h.2.2] at hw
          have h := h.1
          exact x_iret hx hb hr hlocks hG hw h dX5_aim_112
    · have h := h.2 c_4
      refine lv_sipush (v := (-1002)) hx hb dX5_aim_20 (by decide) ?_
      exact x_iret hx hb hr hlocks hG hw h dX5_aim_23
theorem c_X5_aim {l : Launch} {G : xGt} {x1 : Int32} {x2 : Int32} {A : xM} {L : xL} {post : Int32 → xM → xL → Prop} (h : v_X5_aim x1 x2 A L post) : Met l yX5_aim wsX5_aim rX5_aim (va_Pc [.ref (xad G 0), .int x1, .int x2] (xPre G A L)) (xQi G post) 0 0 (xAf G) :=
  x_met RX5 rfl (by decide) rfl (Nat.le_of_ble_eq_true rfl) (fun p e s m below meth c ls C0 hw hl => t_X5_aim_0 C0 hw hl h)
end MECH
