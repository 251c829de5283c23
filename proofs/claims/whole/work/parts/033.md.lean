abbrev rX0_cardAt : Room := { frames := 0, cells := 0, slots := 0, locals := 0 }
theorem inX0_cardAt_X0 : ∀ w ∈ wsX00, w ∈ wsX0_cardAt := fun w h => List.mem_cons_of_mem _ (List.mem_append_right _ h)
def v_X0_cardAt (x1 : Int32) (A : xM) (L : xL) (post : Int32 → Prop) : Prop := (x1 < 0 → (post (-1 : Int32))) ∧ (¬ x1 < 0 → (((A 14 2) ≤ x1 → (post (-1 : Int32))) ∧ (¬ (A 14 2) ≤ x1 → ((x1 < (10 : Int32) → (vp_in x1 10 ∧ (post (A 15 x1.toNatClampNeg)))) ∧ (¬ x1 < (10 : Int32) → (post (-1 : Int32)))))))
section MECH
variable {p : Program} {l : Launch} {e : Env} {s : State} {m : MethodId} {args : Array Value} {below : List Frame} {meth : Method} {c : Code} {G : xGt}
set_option maxHeartbeats 4000000 in
set_option maxRecDepth 100000 in
theorem t_X0_cardAt_0 (C0 : xC p s m args meth c G cX0_cardAt (some .int) wsX0_cardAt RX0 2) {post : Int32 → Prop} {x1 : Int32} {A : xM} {L : xL} {H : Heap} {locs : List Loc} {ls : Array Slot} (hw : xW G s.heap A L H locs) (hl : lv_has ls 2 [(0, .ref (xad G 14)), (1, .int x1)]) (h : v_X0_cardAt x1 A L post) : W p l e rX0_cardAt s m args below meth c H locs 0 0 (MQ below (xQi G (xpi A L post)) args s 0 0 (xAf G)) (F0 m 0 ls []) := by
  obtain ⟨hx, hb, hr, hts, hown, hml, hlocks, hG⟩ := id C0
  unfold v_X0_cardAt at h
  refine lv_iload_n hx hb dX0_cardAt_0 rfl (lv_at hl 1 rfl) ?_
  refine lv_if_lt (tgt := 18) hx hb dX0_cardAt_1 (by decide) (fun c_1 => ?_) (fun c_1 => ?_)
  · have h := h.1 c_1
    refine lv_iconst (v := (-1)) hx hb dX0_cardAt_18 (by decide) ?_
    refine lv_goto (tgt := 28) hx hb dX0_cardAt_19 (by decide) ?_
    exact x_iret hx hb hr hlocks hG hw ⟨h, rfl, rfl⟩ dX0_cardAt_28
  · have h := h.2 c_1
    refine lv_iload_n hx hb dX0_cardAt_4 rfl (lv_at hl 1 rfl) ?_
    refine lv_aload_n hx hb dX0_cardAt_5 rfl (lv_at hl 0 rfl) ?_
    refine x_get (C := RX0) (T := TX0) (N := 6) hx hb hts inX0_cardAt_X0 hown hG hw xO14 rfl 2 (by decide) (hts (.fieldLink RX0 15 "SixNumbers$Box" "size" "I") (List.mem_of_getElem? (i := 1) rfl)) (fun _ h9 => h9) (v := .int (A 14 2)) rfl dX0_cardAt_6 ?_
    refine lv_icmp_ge (tgt := 18) hx hb dX0_cardAt_9 (by decide) (fun c_2 => ?_) (fun c_2 => ?_)
    · have h := h.1 c_2
      refine lv_iconst (v := (-1)) hx hb dX0_cardAt_18 (by decide) ?_
      refine lv_goto (tgt := 28) hx hb dX0_cardAt_19 (by decide) ?_
      exact x_iret hx hb hr hlocks hG hw ⟨h, rfl, rfl⟩ dX0_cardAt_28
    · have h := h.2 c_2
      refine lv_iload_n hx hb dX0_cardAt_12 rfl (lv_at hl 1 rfl) ?_
      refine lv_bipush (v := 10) hx hb dX0_cardAt_13 (by decide) ?_
      refine lv_icmp_lt (tgt := 22) hx hb dX0_cardAt_15 (by decide) (fun c_3 => ?_) (fun c_3 => ?_)
      · have h := h.1 c_3
        refine lv_aload_n hx hb dX0_cardAt_22 rfl (lv_at hl 0 rfl) ?_
        refine x_get (C := RX0) (T := TX0) (N := 6) hx hb hts inX0_cardAt_X0 hown hG hw xO14 rfl 1 (by decide) (hts (.fieldLink RX0 9 "SixNumbers$Box" "cards" "[I") (List.mem_of_getElem? (i := 2) rfl)) (fun _ h9 => h9) (v := .ref (xad G 15)) rfl dX0_cardAt_23 ?_
        refine lv_iload_n hx hb dX0_cardAt_26 rfl (lv_at hl 1 rfl) ?_
        have i_4 := h.1
        have h := h.2
        refine x_iald hx hb hG hw xb15 i_4 dX0_cardAt_27 ?_
        exact x_iret hx hb hr hlocks hG hw ⟨h, rfl, rfl⟩ dX0_cardAt_28
      · have h := h.2 c_3
        refine lv_iconst (v := (-1)) hx hb dX0_cardAt_18 (by decide) ?_
        refine lv_goto (tgt := 28) hx hb dX0_cardAt_19 (by decide) ?_
        exact x_iret hx hb hr hlocks hG hw ⟨h, rfl, rfl⟩ dX0_cardAt_28
theorem c_X0_cardAt {l : Launch} {G : xGt} {x1 : Int32} {A : xM} {L : xL} {post : Int32 → Prop} (h : v_X0_cardAt x1 A L post) : Met l yX0_cardAt wsX0_cardAt rX0_cardAt (va_Pc [.ref (xad G 14), .int x1] (xPre G A L)) (xQi G (xpi A L post)) 0 0 (xAf G) :=
  x_met RX0 rfl (by decide) rfl (Nat.le_of_ble_eq_true rfl) (fun p e s m below meth c ls C0 hw hl => t_X0_cardAt_0 C0 hw hl h)
end MECH
abbrev rX0_forgetTallies : Room := { frames := 0, cells := 0, slots := 0, locals := 0 }
theorem inX0_forgetTallies_X0 : ∀ w ∈ wsX00, w ∈ wsX0_forgetTallies := fun w h => List.mem_cons_of_mem _ (List.mem_append_right _ h)
def v_X0_forgetTallies (A : xM) (L : xL) (post : xM → xL → Prop) : Prop := ∀ A_1 : xM, A_1 = xu A 14 5 (0 : Int32) → (post A_1 L)
section MECH
variable {p : Program} {l : Launch} {e : Env} {s : State} {m : MethodId} {args : Array Value} {below : List Frame} {meth : Method} {c : Code} {G : xGt}
set_option maxHeartbeats 4000000 in
set_option maxRecDepth 100000 in
theorem t_X0_forgetTallies_0 (C0 : xC p s m args meth c G cX0_forgetTallies none wsX0_forgetTallies RX0 1) {post : xM → xL → Prop} {A : xM} {L : xL} {H : Heap} {locs : List Loc} {ls : Array Slot} (hw : xW G s.heap A L H locs) (hl : lv_has ls 1 [(0, .ref (xad G 14))]) (h : v_X0_forgetTallies A L post) : W p l e rX0_forgetTallies s m args below meth c H locs 0 0 (MQ below (xQv G post) args s 0 0 (xAf G)) (F0 m 0 ls []) := by
  obtain ⟨hx, hb, hr, hts, hown, hml, hlocks, hG⟩ := id C0
  unfold v_X0_forgetTallies at h
  refine lv_aload_n hx hb dX0_forgetTallies_0 rfl (lv_at hl 0 rfl) ?_
  refine lv_iconst (v := 0) hx hb dX0_forgetTallies_1 (by decide) ?_
  refine x_put (C := RX0) (T := TX0) (N := 6) hx hb hts inX0_forgetTallies_X0 tyX0 tyX0_ok nmX0 hown hG hw xO14 rfl 5 (by decide) (hts (.fieldLink RX0 27 "SixNumbers$Box" "counted" "I") (List.mem_of_getElem? (i := 1) rfl)) (fun _ h9 => h9) rfl (ty := .int) (by decide +kernel) rfl rfl (Nat.le_of_ble_eq_true rfl) rfl dX0_forgetTallies_2 (fun A_1 H locs eA_1 hw => ?_)
  have h := h A_1 eA_1
  exact x_vret hx hb hr hlocks hG hw h dX0_forgetTallies_5
theorem c_X0_forgetTallies {l : Launch} {G : xGt} {A : xM} {L : xL} {post : xM → xL → Prop} (h : v_X0_forgetTallies A L post) : Met l yX0_forgetTallies wsX0_forgetTallies rX0_forgetTallies (va_Pc [.ref (xad G 14)] (xPre G A L)) (xQv G post) 0 0 (xAf G) :=
  x_met RX0 rfl (by decide) rfl (Nat.le_of_ble_eq_true rfl) (fun p e s m below meth c ls C0 hw hl => t_X0_forgetTallies_0 C0 hw hl h)
end MECH
abbrev rX0_put : Room := { frames := 1, cells := 0, slots := 0, locals := 20 }
theorem inX0_put_X0 : ∀ w ∈ wsX00, w ∈ wsX0_put := fun w h => List.mem_cons_of_mem _ (List.mem_append_right _ h)
def v_X0_put (x1 : Int32) (A : xM) (L : xL) (post : Int32 → xM → xL → Prop) : Prop := ∀ x2_1 : Int32, x2_1 = (A 14 2) → ((x2_1 < 0 → (post (-1004 : Int32) A L)) ∧ (¬ x2_1 < 0 → ((x2_1 < (10 : Int32) → (vp_in x2_1 10 ∧ (∀ A_5 : xM, A_5 = xu A 15 x2_1.toNatClampNeg x1 → (∀ A_6 : xM, A_6 = xu A_5 14 2 ((A_5 14 2) + (1 : Int32)) → (v_X0_forgetTallies A_6 L (fun (A_7 : xM) (L_8 : xL) => (post x2_1 A_7 L_8))))))) ∧ (¬ x2_1 < (10 : Int32) → (post (-1004 : Int32) A L)))))
section MECH
variable {p : Program} {l : Launch} {e : Env} {s : State} {m : MethodId} {args : Array Value} {below : List Frame} {meth : Method} {c : Code} {G : xGt}
set_option maxHeartbeats 4000000 in
set_option maxRecDepth 100000 in
theorem t_X0_put_0 (C0 : xC p s m args meth c G cX0_put (some .int) wsX0_put RX0 3) {post : Int32 → xM → xL → Prop} {x1 : Int32} {A : xM} {L : xL} {H : Heap} {locs : List Loc} {ls : Array Slot} (hw : xW G s.heap A L H locs) (hl : lv_has ls 3 [(0, .ref (xad G 14)), (1, .int x1)]) (h : v_X0_put x1 A L post) : W p l e rX0_put s m args below meth c H locs 0 0 (MQ below (xQi G post) args s 0 0 (xAf G)) (F0 m 0 ls []) := by
  obtain ⟨hx, hb, hr, hts, hown, hml, hlocks, hG⟩ := id C0
  unfold v_X0_put at h
  refine lv_aload_n hx hb dX0_put_0 rfl (lv_at hl 0 rfl) ?_
  refine x_get (C := RX0) (T := TX0) (N := 6) hx hb hts inX0_put_X0 hown hG hw xO14 rfl 2 (by decide) (hts (.fieldLink RX0 15 "SixNumbers$Box" "size" "I") (List.mem_of_getElem? (i := 1) rfl)) (fun _ h9 => h9) (v := .int (A 14 2)) rfl dX0_put_1 ?_
  refine lv_topi (fun x2_1 ex2_1 => ?_)
  have h := h x2_1 ex2_1
  refine lv_istore_n (lv' := [(2, .int x2_1), (0, .ref (xad G 14)), (1, .int x1)]) hx hb dX0_put_4 rfl hl (by decide) rfl (fun ls hl => ?_)
  refine lv_iload_n hx hb dX0_put_5 rfl (lv_at hl 0 rfl) ?_
  refine lv_if_lt (tgt := 15) hx hb dX0_put_6 (by decide) (fun c_2 => ?_) (fun c_2 => ?_)
  · have h := h.1 c_2
    refine lv_sipush (v := (-1004)) hx hb dX0_put_15 (by decide) ?_
    exact x_iret hx hb hr hlocks hG hw h dX0_put_18
  · have h := h.2 c_2
    refine lv_iload_n hx hb dX0_put_9 rfl (lv_at hl 0 rfl) ?_
    refine lv_bipush (v := 10) hx hb dX0_put_10 (by decide) ?_
    refine lv_icmp_lt (tgt := 19) hx hb dX0_put_12 (by decide) (fun c_3 => ?_) (fun c_3 => ?_)
    · have h := h.1 c_3
      refine lv_aload_n hx hb dX0_put_19 rfl (lv_at hl 1 rfl) ?_
      refine x_get (C := RX0) (T := TX0) (N := 6) hx hb hts inX0_put_X0 hown hG hw xO14 rfl 1 (by decide) (hts (.fieldLink RX0 9 "SixNumbers$Box" "cards" "[I") (List.mem_of_getElem? (i := 2) rfl)) (fun _ h9 => h9) (v := .ref (xad G 15)) rfl dX0_put_20 ?_
      refine lv_iload_n hx hb dX0_put_23 rfl (lv_at hl 0 rfl) ?_
      refine lv_iload_n hx hb dX0_put_24 rfl (lv_at hl 2 rfl) ?_
      have i_4 := h.1
      have h := h.2
      refine x_iast hx hb hG hw xb15 i_4 dX0_put_25 (fun A_5 H locs eA_5 hw => ?_)
      have h := h A_5 eA_5
      refine lv_aload_n hx hb dX0_put_26 rfl (lv_at hl 1 rfl) ?_
      refine lv_dup hx hb dX0_put_27 rfl ?_
      refine x_get (C := RX0) (T := TX0) (N := 6) hx hb hts inX0_put_X0 hown hG hw xO14 rfl 2 (by decide) (hts (.fieldLink RX0 15 "SixNumbers$Box" "size" "I") (List.mem_of_getElem? (i := 1) rfl)) (fun _ h9 => h9) (v := .int (A_5 14 2)) rfl dX0_put_28 ?_
      refine lv_iconst (v := 1) hx hb dX0_put_31 (by decide) ?_
      refine lv_iadd hx hb dX0_put_32 ?_
      refine x_put (C := RX0) (T := TX0) (N := 6) hx hb hts inX0_put_X0 tyX0 tyX0_ok nmX0 hown hG hw xO14 rfl 2 (by decide) (hts (.fieldLink RX0 15 "SixNumbers$Box" "size" "I") (List.mem_of_getElem? (i := 1) rfl)) (fun _ h9 => h9) rfl (ty := .int) (by decide +kernel) rfl rfl (Nat.le_of_ble_eq_true rfl) rfl dX0_put_33 (fun A_6 H locs eA_6 hw => ?_)
      have h := h A_6 eA_6
      refine lv_aload_n hx hb dX0_put_36 rfl (lv_at hl 1 rfl) ?_
      refine x_callv hG hw (va_runV (As := []) (rest := []) ⟨hx, hb, hml, hown, hts⟩ (c_X0_forgetTallies (l := l) (G := G) h) (cwV 0 hts gX0_put_X0_forgetTallies rfl rfl rfl (by decide +kernel) ⟨Nat.le_of_ble_eq_true rfl, Nat.le_of_ble_eq_true rfl⟩) (x_preV hG hw xO14 rfl) rfl rfl hl.1 rfl (lv_room (Nat.le_of_ble_eq_true rfl)) dX0_put_37 ⟨Nat.le_of_ble_eq_true rfl, Nat.le_of_ble_eq_true rfl⟩) (fun A_7 L_8 H locs hw h => ?_)
      refine lv_iload_n hx hb dX0_put_40 rfl (lv_at hl 0 rfl) ?_
      exact x_iret hx hb hr hlocks hG hw h dX0_put_41
    · have h := h.2 c_3
      refine lv_sipush (v := (-1004)) hx hb dX0_put_15 (by decide) ?_
      exact x_iret hx hb hr hlocks hG hw h dX0_put_18
theorem c_X0_put {l : Launch} {G : xGt} {x1 : Int32} {A : xM} {L : xL} {post : Int32 → xM → xL → Prop} (h : v_X0_put x1 A L post) : Met l yX0_put wsX0_put rX0_put (va_Pc [.ref (xad G 14), .int x1] (xPre G A L)) (xQi G post) 0 0 (xAf G) :=
  x_met RX0 rfl (by decide) rfl (Nat.le_of_ble_eq_true rfl) (fun p e s m below meth c ls C0 hw hl => t_X0_put_0 C0 hw hl h)
end MECH
abbrev rX0_clear : Room := { frames := 1, cells := 0, slots := 0, locals := 20 }
theorem inX0_clear_X0 : ∀ w ∈ wsX00, w ∈ wsX0_clear := fun w h => List.mem_cons_of_mem _ (List.mem_append_right _ h)
def v_X0_clear (A : xM) (L : xL) (post : Int32 → xM → xL → Prop) : Prop := ∀ x1_1 : Int32, x1_1 = (A 14 2) → (∀ A_2 : xM, A_2 = xu A 14 2 (0 : Int32) → (v_X0_forgetTallies A_2 L (fun (A_3 : xM) (L_4 : xL) => (post x1_1 A_3 L_4))))
section MECH
variable {p : Program} {l : Launch} {e : Env} {s : State} {m : MethodId} {args : Array Value} {below : List Frame} {meth : Method} {c : Code} {G : xGt}
set_option maxHeartbeats 4000000 in
set_option maxRecDepth 100000 in
theorem t_X0_clear_0 (C0 : xC p s m args meth c G cX0_clear (some .int) wsX0_clear RX0 2) {post : Int32 → xM → xL → Prop} {A : xM} {L : xL} {H : Heap} {locs : List Loc} {ls : Array Slot} (hw : xW G s.heap A L H locs) (hl : lv_has ls 2 [(0, .ref (xad G 14))]) (h : v_X0_clear A L post) : W p l e rX0_clear s m args below meth c H locs 0 0 (MQ below (xQi G post) args s 0 0 (xAf G)) (F0 m 0 ls []) := by
  obtain ⟨hx, hb, hr, hts, hown, hml, hlocks, hG⟩ := id C0
  unfold v_X0_clear at h
  refine lv_aload_n hx hb dX0_clear_0 rfl (lv_at hl 0 rfl) ?_
  refine x_get (C := RX0) (T := TX0) (N := 6) hx hb hts inX0_clear_X0 hown hG hw xO14 rfl 2 (by decide) (hts (.fieldLink RX0 15 "SixNumbers$Box" "size" "I") (List.mem_of_getElem? (i := 1) rfl)) (fun _ h9 => h9) (v := .int (A 14 2)) rfl dX0_clear_1 ?_
  refine lv_topi (fun x1_1 ex1_1 => ?_)
  have h := h x1_1 ex1_1
  refine lv_istore_n (lv' := [(1, .int x1_1), (0, .ref (xad G 14))]) hx hb dX0_clear_4 rfl hl (by decide) rfl (fun ls hl => ?_)
  refine lv_aload_n hx hb dX0_clear_5 rfl (lv_at hl 1 rfl) ?_
  refine lv_iconst (v := 0) hx hb dX0_clear_6 (by decide) ?_
  refine x_put (C := RX0) (T := TX0) (N := 6) hx hb hts inX0_clear_X0 tyX0 tyX0_ok nmX0 hown hG hw xO14 rfl 2 (by decide) (hts (.fieldLink RX0 15 "SixNumbers$Box" "size" "I") (List.mem_of_getElem? (i := 1) rfl)) (fun _ h9 => h9) rfl (ty := .int) (by decide +kernel) rfl rfl (Nat.le_of_ble_eq_true rfl) rfl dX0_clear_7 (fun A_2 H locs eA_2 hw => ?_)
  have h := h A_2 eA_2
  refine lv_aload_n hx hb dX0_clear_10 rfl (lv_at hl 1 rfl) ?_
  refine x_callv hG hw (va_runV (As := []) (rest := []) ⟨hx, hb, hml, hown, hts⟩ (c_X0_forgetTallies (l := l) (G := G) h) (cwV 0 hts gX0_clear_X0_forgetTallies rfl rfl rfl (by decide +kernel) ⟨Nat.le_of_ble_eq_true rfl, Nat.le_of_ble_eq_true rfl⟩) (x_preV hG hw xO14 rfl) rfl rfl hl.1 rfl (lv_room (Nat.le_of_ble_eq_true rfl)) dX0_clear_11 ⟨Nat.le_of_ble_eq_true rfl, Nat.le_of_ble_eq_true rfl⟩) (fun A_3 L_4 H locs hw h => ?_)
  refine lv_iload_n hx hb dX0_clear_14 rfl (lv_at hl 0 rfl) ?_
  exact x_iret hx hb hr hlocks hG hw h dX0_clear_15
theorem c_X0_clear {l : Launch} {G : xGt} {A : xM} {L : xL} {post : Int32 → xM → xL → Prop} (h : v_X0_clear A L post) : Met l yX0_clear wsX0_clear rX0_clear (va_Pc [.ref (xad G 14)] (xPre G A L)) (xQi G post) 0 0 (xAf G) :=
  x_met RX0 rfl (by decide) rfl (Nat.le_of_ble_eq_true rfl) (fun p e s m below meth c ls C0 hw hl => t_X0_clear_0 C0 hw hl h)
end MECH
abbrev rX0_drawsOf : Room := { frames := 0, cells := 0, slots := 0, locals := 0 }
theorem inX0_drawsOf_X0 : ∀ w ∈ wsX00, w ∈ wsX0_drawsOf := fun w h => List.mem_cons_of_mem _ (List.mem_append_right _ h)
def v_X0_drawsOf (x1 : Int32) (A : xM) (L : xL) (post : Int32 → Prop) : Prop := (x1 < (1 : Int32) → (post (0 : Int32))) ∧ (¬ x1 < (1 : Int32) → ((x1 ≤ (4 : Int32) → (vp_in x1 5 ∧ (post (A 17 x1.toNatClampNeg)))) ∧ (¬ x1 ≤ (4 : Int32) → (post (0 : Int32)))))
section MECH
variable {p : Program} {l : Launch} {e : Env} {s : State} {m : MethodId} {args : Array Value} {below : List Frame} {meth : Method} {c : Code} {G : xGt}
set_option maxHeartbeats 4000000 in
set_option maxRecDepth 100000 in
theorem t_X0_drawsOf_0 (C0 : xC p s m args meth c G cX0_drawsOf (some .int) wsX0_drawsOf RX0 2) {post : Int32 → Prop} {x1 : Int32} {A : xM} {L : xL} {H : Heap} {locs : List Loc} {ls : Array Slot} (hw : xW G s.heap A L H locs) (hl : lv_has ls 2 [(0, .ref (xad G 14)), (1, .int x1)]) (h : v_X0_drawsOf x1 A L post) : W p l e rX0_drawsOf s m args below meth c H locs 0 0 (MQ below (xQi G (xpi A L post)) args s 0 0 (xAf G)) (F0 m 0 ls []) := by
  obtain ⟨hx, hb, hr, hts, hown, hml, hlocks, hG⟩ := id C0
  unfold v_X0_drawsOf at h
  refine lv_iload_n hx hb dX0_drawsOf_0 rfl (lv_at hl 1 rfl) ?_
  refine lv_iconst (v := 1) hx hb dX0_drawsOf_1 (by decide) ?_
  refine lv_icmp_lt (tgt := 10) hx hb dX0_drawsOf_2 (by decide) (fun c_1 => ?_) (fun c_1 => ?_)
  · have h := h.1 c_1
    refine lv_iconst (v := 0) hx hb dX0_drawsOf_10 (by decide) ?_
    refine lv_goto (tgt := 20) hx hb dX0_drawsOf_11 (by decide) ?_
    exact x_iret hx hb hr hlocks hG hw ⟨h, rfl, rfl⟩ dX0_drawsOf_20
  · have h := h.2 c_1
    refine lv_iload_n hx hb dX0_drawsOf_5 rfl (lv_at hl 1 rfl) ?_
    refine lv_iconst (v := 4) hx hb dX0_drawsOf_6 (by decide) ?_
    refine lv_icmp_le (tgt := 14) hx hb dX0_drawsOf_7 (by decide) (fun c_2 => ?_) (fun c_2 => ?_)
    · have h := h.1 c_2
      refine lv_aload_n hx hb dX0_drawsOf_14 rfl (lv_at hl 0 rfl) ?_
      refine x_get (C := RX0) (T := TX0) (N := 6) hx hb hts inX0_drawsOf_X0 hown hG hw xO14 rfl 4 (by decide) (hts (.fieldLink RX0 24 "SixNumbers$Box" "totals" "[I") (List.mem_of_getElem? (i := 1) rfl)) (fun _ h9 => h9) (v := .ref (xad G 17)) rfl dX0_drawsOf_15 ?_
      refine lv_iload_n hx hb dX0_drawsOf_18 rfl (lv_at hl 1 rfl) ?_
      have i_3 := h.1
      have h := h.2
      refine x_iald hx hb hG hw xb17 i_3 dX0_drawsOf_19 ?_
      exact x_iret hx hb hr hlocks hG hw ⟨h, rfl, rfl⟩ dX0_drawsOf_20
    · have h := h.2 c_2
      refine lv_iconst (v := 0) hx hb dX0_drawsOf_10 (by decide) ?_
      refine lv_goto (tgt := 20) hx hb dX0_drawsOf_11 (by decide) ?_
      exact x_iret hx hb hr hlocks hG hw ⟨h, rfl, rfl⟩ dX0_drawsOf_20
theorem c_X0_drawsOf {l : Launch} {G : xGt} {x1 : Int32} {A : xM} {L : xL} {post : Int32 → Prop} (h : v_X0_drawsOf x1 A L post) : Met l yX0_drawsOf wsX0_drawsOf rX0_drawsOf (va_Pc [.ref (xad G 14), .int x1] (xPre G A L)) (xQi G (xpi A L post)) 0 0 (xAf G) :=
  x_met RX0 rfl (by decide) rfl (Nat.le_of_ble_eq_true rfl) (fun p e s m below meth c ls C0 hw hl => t_X0_drawsOf_0 C0 hw hl h)
end MECH
abbrev rX0_drawsReaching : Room := { frames := 0, cells := 0, slots := 0, locals := 0 }
theorem inX0_drawsReaching_X0 : ∀ w ∈ wsX00, w ∈ wsX0_drawsReaching := fun w h => List.mem_cons_of_mem _ (List.mem_append_right _ h)
def v_X0_drawsReaching (x1 : Int32) (x2 : Int32) (A : xM) (L : xL) (post : Int32 → Prop) : Prop := (x1 < (1 : Int32) → (post (0 : Int32))) ∧ (¬ x1 < (1 : Int32) → (((4 : Int32) < x1 → (post (0 : Int32))) ∧ (¬ (4 : Int32) < x1 → ((x2 < (1 : Int32) → (post (0 : Int32))) ∧ (¬ x2 < (1 : Int32) → ((x2 ≤ (3000 : Int32) → (vp_in x1 5 ∧ (vp_in x2 3001 ∧ (post (A (196 + x1.toNatClampNeg) x2.toNatClampNeg))))) ∧ (¬ x2 ≤ (3000 : Int32) → (post (0 : Int32)))))))))
section MECH
variable {p : Program} {l : Launch} {e : Env} {s : State} {m : MethodId} {args : Array Value} {below : List Frame} {meth : Method} {c : Code} {G : xGt}
set_option maxHeartbeats 4000000 in
set_option maxRecDepth 100000 in
theorem t_X0_drawsReaching_0 (C0 : xC p s m args meth c G cX0_drawsReaching (some .int) wsX0_drawsReaching RX0 3) {post : Int32 → Prop} {x1 : Int32} {x2 : Int32} {A : xM} {L : xL} {H : Heap} {locs : List Loc} {ls : Array Slot} (hw : xW G s.heap A L H locs) (hl : lv_has ls 3 [(0, .ref (xad G 14)), (1, .int x1), (2, .int x2)]) (h : v_X0_drawsReaching x1 x2 A L post) : W p l e rX0_drawsReaching s m args below meth c H locs 0 0 (MQ below (xQi G (xpi A L post)) args s 0 0 (xAf G)) (F0 m 0 ls []) := by
  obtain ⟨hx, hb, hr, hts, hown, hml, hlocks, hG⟩ := id C0
  unfold v_X0_drawsReaching at h
  refine lv_iload_n hx hb dX0_drawsReaching_0 rfl (lv_at hl 1 rfl) ?_
  refine lv_iconst (v := 1) hx hb dX0_drawsReaching_1 (by decide) ?_
  refine lv_icmp_lt (tgt := 22) hx hb dX0_drawsReaching_2 (by decide) (fun c_1 => ?_) (fun c_1 => ?_)
  · have h := h.1 c_1
    refine lv_iconst (v := 0) hx hb dX0_drawsReaching_22 (by decide) ?_
    exact x_iret hx hb hr hlocks hG hw ⟨h, rfl, rfl⟩ dX0_drawsReaching_23
  · have h := h.2 c_1
    refine lv_iload_n hx hb dX0_drawsReaching_5 rfl (lv_at hl 1 rfl) ?_
    refine lv_iconst (v := 4) hx hb dX0_drawsReaching_6 (by decide) ?_
    refine lv_icmp_gt (tgt := 22) hx hb dX0_drawsReaching_7 (by decide) (fun c_2 => ?_) (fun c_2 => ?_)
    · have h := h.1 c_2
      refine lv_iconst (v := 0) hx hb dX0_drawsReaching_22 (by decide) ?_
      exact x_iret hx hb hr hlocks hG hw ⟨h, rfl, rfl⟩ dX0_drawsReaching_23
    · have h := h.2 c_2
      refine lv_iload_n hx hb dX0_drawsReaching_10 rfl (lv_at hl 2 rfl) ?_
      refine lv_iconst (v := 1) hx hb dX0_drawsReaching_11 (by decide) ?_
      refine lv_icmp_lt (tgt := 22) hx hb dX0_drawsReaching_12 (by decide) (fun c_3 => ?_) (fun c_3 => ?_)
      · have h := h.1 c_3
        refine lv_iconst (v := 0) hx hb dX0_drawsReaching_22 (by decide) ?_
        exact x_iret hx hb hr hlocks hG hw ⟨h, rfl, rfl⟩ dX0_drawsReaching_23
      · have h := h.2 c_3
        refine lv_iload_n hx hb dX0_drawsReaching_15 rfl (lv_at hl 2 rfl) ?_
        refine lv_sipush (v := 3000) hx hb dX0_drawsReaching_16 (by decide) ?_
        refine lv_icmp_le (tgt := 24) hx hb dX0_drawsReaching_19 (by decide) (fun c_4 => ?_) (fun c_4 => ?_)
        · have h := h.1 c_4
          refine lv_aload_n hx hb dX0_drawsReaching_24 rfl (lv_at hl 0 rfl) ?_
          refine x_get (C := RX0) (T := TX0) (N := 6) hx hb hts inX0_drawsReaching_X0 hown hG hw xO14 rfl 3 (by decide) (hts (.fieldLink RX0 21 "SixNumbers$Box" "tallies" "[[I") (List.mem_of_getElem? (i := 1) rfl)) (fun _ h9 => h9) (v := .ref (xad G 16)) rfl dX0_drawsReaching_25 ?_
          refine lv_iload_n hx hb dX0_drawsReaching_28 rfl (lv_at hl 1 rfl) ?_
          have i_5 := h.1
          have h := h.2
          refine x_aald hx hb hG hw xb16 .int rfl i_5 dX0_drawsReaching_29 ?_
          refine lv_iload_n hx hb dX0_drawsReaching_30 rfl (lv_at hl 2 rfl) ?_
          have i_6 := h.1
          have h := h.2
          refine x_iald hx hb hG hw (xrT i_5) i_6 dX0_drawsReaching_31 ?_
          exact x_iret hx hb hr hlocks hG hw ⟨h, rfl, rfl⟩ dX0_drawsReaching_32
        · have h := h.2 c_4
          refine lv_iconst (v := 0) hx hb dX0_drawsReaching_22 (by decide) ?_
          exact x_iret hx hb hr hlocks hG hw ⟨h, rfl, rfl⟩ dX0_drawsReaching_23
theorem c_X0_drawsReaching {l : Launch} {G : xGt} {x1 : Int32} {x2 : Int32} {A : xM} {L : xL} {post : Int32 → Prop} (h : v_X0_drawsReaching x1 x2 A L post) : Met l yX0_drawsReaching wsX0_drawsReaching rX0_drawsReaching (va_Pc [.ref (xad G 14), .int x1, .int x2] (xPre G A L)) (xQi G (xpi A L post)) 0 0 (xAf G) :=
  x_met RX0 rfl (by decide) rfl (Nat.le_of_ble_eq_true rfl) (fun p e s m below meth c ls C0 hw hl => t_X0_drawsReaching_0 C0 hw hl h)
end MECH
abbrev rX0_countDraw : Room := { frames := 4, cells := 0, slots := 0, locals := 102 }
theorem inX0_countDraw_X0 : ∀ w ∈ wsX00, w ∈ wsX0_countDraw := fun w h => List.mem_cons_of_mem _ (List.mem_append_left _ (List.mem_append_left _ (List.mem_append_right _ h)))
def v_X0_countDraw_72 (g : Nat) (post : xM → xL → Prop) : Nat → Int32 → xM → xL → Prop
  | 0, _, _, _ => False
  | n + 1, x4, A, L => ((3000 : Int32) < x4 → (post A L)) ∧ (¬ (3000 : Int32) < x4 → (((nI 3001) ≤ x4 → (post A L)) ∧ (¬ (nI 3001) ≤ x4 → (v_X1_reaches 1 x4 A L (fun (r_3 : Int32) => ((r_3 = 0 → (∀ x4_5 : Int32, x4_5 = x4 + (1 : Int32) → (v_X0_countDraw_72 g post n x4_5 A L))) ∧ (¬ r_3 = 0 → (vp_in x4 3001 ∧ (∀ A_7 : xM, A_7 = xu A g x4.toNatClampNeg ((A g x4.toNatClampNeg) + (1 : Int32)) → (∀ x4_8 : Int32, x4_8 = x4 + (1 : Int32) → (v_X0_countDraw_72 g post n x4_8 A_7 L)))))))))))
def v_X0_countDraw_54 (g : Nat) (x3 : Int32) (A : xM) (L : xL) (post : xM → xL → Prop) : Prop := v_X1_shorten 1 x3 A L (fun (A_1 : xM) (L_2 : xL) => (v_X1_refresh 1 A_1 L_2 (fun (A_3 : xM) (L_4 : xL) => (∃ k9 : Nat, v_X0_countDraw_72 g post k9 (1 : Int32) A_3 L_4))))
def v_X0_countDraw_5 (g : Nat) (x1 : Int32) (post : xM → xL → Prop) : Nat → Int32 → Int32 → xM → xL → Prop
  | 0, _, _, _, _ => False
  | n + 1, x3, x4, A, L => ((A 14 2) ≤ x4 → (v_X0_countDraw_54 g x3 A L post)) ∧ (¬ (A 14 2) ≤ x4 → (((10 : Int32) ≤ x4 → (v_X0_countDraw_54 g x3 A L post)) ∧ (¬ (10 : Int32) ≤ x4 → (((x1 &&& ((1 : Int32) <<< (x4 &&& 31))) = 0 → (∀ x4_4 : Int32, x4_4 = x4 + (1 : Int32) → (v_X0_countDraw_5 g x1 post n x3 x4_4 A L))) ∧ (¬ (x1 &&& ((1 : Int32) <<< (x4 &&& 31))) = 0 → (vp_in x4 10 ∧ (v_X1_place 1 x3 (A 15 x4.toNatClampNeg) A L (fun (A_6 : xM) (L_7 : xL) => (∀ x3_8 : Int32, x3_8 = x3 + (1 : Int32) → (∀ x4_9 : Int32, x4_9 = x4 + (1 : Int32) → (v_X0_countDraw_5 g x1 post n x3_8 x4_9 A_6 L_7)))))))))))
def v_X0_countDraw (g : Nat) (x1 : Int32) (A : xM) (L : xL) (post : xM → xL → Prop) : Prop := ∃ k9 : Nat, v_X0_countDraw_5 g x1 post k9 (0 : Int32) (0 : Int32) A L
section MECH
variable {p : Program} {l : Launch} {e : Env} {s : State} {m : MethodId} {args : Array Value} {below : List Frame} {meth : Method} {c : Code} {G : xGt}
set_option maxHeartbeats 4000000 in
set_option maxRecDepth 100000 in
theorem t_X0_countDraw_72 (C0 : xC p s m args meth c G cX0_countDraw none wsX0_countDraw RX0 5) {g : Nat} (hg : xIA g 3001) {post : xM → xL → Prop} : ∀ (n : Nat) (x4 : Int32) (A : xM) (L : xL) (H : Heap) (locs : List Loc) (ls : Array Slot), xW G s.heap A L H locs → lv_has ls 5 [(0, .ref (xad G 14)), (2, .ref (xad G g)), (4, .int x4)] → v_X0_countDraw_72 g post n x4 A L → W p l e rX0_countDraw s m args below meth c H locs 0 0 (MQ below (xQv G post) args s 0 0 (xAf G)) (F0 m 72 ls []) := by
  obtain ⟨hx, hb, hr, hts, hown, hml, hlocks, hG⟩ := id C0
  intro n
  induction n with
  | zero => intro x4 A L H locs ls hw hl h; exact (show False from h).elim
  | succ n ih =>
    intro x4 A L H locs ls hw hl h
    unfold v_X0_countDraw_72 at h
    refine lv_iload hx hb dX0_countDraw_72 (lv_at hl 2 rfl) ?_
    refine lv_sipush (v := 3000) hx hb dX0_countDraw_74 (by decide) ?_
    refine lv_icmp_gt (tgt := 113) hx hb dX0_countDraw_77 (by decide) (fun c_1 => ?_) (fun c_1 => ?_)
    · have h := h.1 c_1
      exact x_vret hx hb hr hlocks hG hw h dX0_countDraw_113
    · have h := h.2 c_1
      refine lv_iload hx hb dX0_countDraw_80 (lv_at hl 2 rfl) ?_
      refine lv_aload_n hx hb dX0_countDraw_82 rfl (lv_at hl 1 rfl) ?_
      refine x_alenI hx hb hG hw hg dX0_countDraw_83 ?_
      refine lv_icmp_ge (tgt := 113) hx hb dX0_countDraw_84 (by decide) (fun c_2 => ?_) (fun c_2 => ?_)
      · have h := h.1 c_2
        exact x_vret hx hb hr hlocks hG hw h dX0_countDraw_113
      · have h := h.2 c_2
        refine lv_aload_n hx hb dX0_countDraw_87 rfl (lv_at hl 0 rfl) ?_
        refine x_get (C := RX0) (T := TX0) (N := 6) hx hb hts inX0_countDraw_X0 hown hG hw xO14 rfl 0 (by decide) (hts (.fieldLink RX0 30 "SixNumbers$Box" "trial" "LSixNumbers$Heap;") (List.mem_of_getElem? (i := 2) rfl)) (fun _ h9 => h9) (v := .ref (xad G (2 + 6 * 1))) rfl dX0_countDraw_88 ?_
        refine lv_iload hx hb dX0_countDraw_91 (lv_at hl 2 rfl) ?_
        refine x_calli hG hw (va_runV (As := [.int x4]) (rest := []) ⟨hx, hb, hml, hown, hts⟩ (c_X1_reaches (l := l) (G := G) (show 1 < 2 by decide) h) (cwV 1 hts gX0_countDraw_X1_reaches rfl rfl rfl (by decide +kernel) ⟨Nat.le_of_ble_eq_true rfl, Nat.le_of_ble_eq_true rfl⟩) (x_preV hG hw (xOh (q := 1) (by decide)) rfl) rfl rfl hl.1 rfl (lv_room (Nat.le_of_ble_eq_true rfl)) dX0_countDraw_93 ⟨Nat.le_of_ble_eq_true rfl, Nat.le_of_ble_eq_true rfl⟩) (fun r_3 A9 L9 H locs hw h => ?_)
        rw [h.2.1, h.2.2] at hw
        have h := h.1
        refine lv_if_eq (tgt := 107) hx hb dX0_countDraw_96 (by decide) (fun c_4 => ?_) (fun c_4 => ?_)
        · have h := h.1 c_4
          obtain ⟨x4_5, ex4_5⟩ : ∃ y : Int32, y = x4 + (1 : Int32) := ⟨_, rfl⟩
          have h := h x4_5 ex4_5
          refine lv_iinc (v := x4_5) (lv' := [(4, .int x4_5), (0, .ref (xad G 14)), (2, .ref (xad G g))]) hx hb dX0_countDraw_107 hl (k := 2) rfl (by rw [ex4_5]; rfl) (by decide) rfl (fun ls hl => ?_)
          refine lv_goto (tgt := 72) hx hb dX0_countDraw_110 (by decide) ?_
          exact ih x4_5 A L _ _ _ hw (lv_sub hl [1, 2, 0] rfl) h
        · have h := h.2 c_4
          refine lv_aload_n hx hb dX0_countDraw_99 rfl (lv_at hl 1 rfl) ?_
          refine lv_iload hx hb dX0_countDraw_100 (lv_at hl 2 rfl) ?_
          refine lv_dup2_11 hx hb dX0_countDraw_102 rfl rfl ?_
          have i_6 := h.1
          have h := h.2
          refine x_iald hx hb hG hw hg i_6 dX0_countDraw_103 ?_
          refine lv_iconst (v := 1) hx hb dX0_countDraw_104 (by decide) ?_
          refine lv_iadd hx hb dX0_countDraw_105 ?_
          refine x_iast hx hb hG hw hg i_6 dX0_countDraw_106 (fun A_7 H locs eA_7 hw => ?_)
          have h := h A_7 eA_7
          obtain ⟨x4_8, ex4_8⟩ : ∃ y : Int32, y = x4 + (1 : Int32) := ⟨_, rfl⟩
          have h := h x4_8 ex4_8
          refine lv_iinc (v := x4_8) (lv' := [(4, .int x4_8), (0, .ref (xad G 14)), (2, .ref (xad G g))]) hx hb dX0_countDraw_107 hl (k := 2) rfl (by rw [ex4_8]; rfl) (by decide) rfl (fun ls hl => ?_)
          refine lv_goto (tgt := 72) hx hb dX0_countDraw_110 (by decide) ?_
          exact ih x4_8 A_7 L _ _ _ hw (lv_sub hl [1, 2, 0] rfl) h
set_option maxHeartbeats 4000000 in
set_option maxRecDepth 100000 in
theorem t_X0_countDraw_54 (C0 : xC p s m args meth c G cX0_countDraw none wsX0_countDraw RX0 5) {g : Nat} (hg : xIA g 3001) {post : xM → xL → Prop} {x3 : Int32} {A : xM} {L : xL} {H : Heap} {locs : List Loc} {ls : Array Slot} (hw : xW G s.heap A L H locs) (hl : lv_has ls 5 [(0, .ref (xad G 14)), (2, .ref (xad G g)), (3, .int x3)]) (h : v_X0_countDraw_54 g x3 A L post) : W p l e rX0_countDraw s m args below meth c H locs 0 0 (MQ below (xQv G post) args s 0 0 (xAf G)) (F0 m 54 ls []) := by
  obtain ⟨hx, hb, hr, hts, hown, hml, hlocks, hG⟩ := id C0
  unfold v_X0_countDraw_54 at h
  refine lv_aload_n hx hb dX0_countDraw_54 rfl (lv_at hl 0 rfl) ?_
  refine x_get (C := RX0) (T := TX0) (N := 6) hx hb hts inX0_countDraw_X0 hown hG hw xO14 rfl 0 (by decide) (hts (.fieldLink RX0 30 "SixNumbers$Box" "trial" "LSixNumbers$Heap;") (List.mem_of_getElem? (i := 2) rfl)) (fun _ h9 => h9) (v := .ref (xad G (2 + 6 * 1))) rfl dX0_countDraw_55 ?_
  refine lv_iload_n hx hb dX0_countDraw_58 rfl (lv_at hl 2 rfl) ?_
  refine x_callv hG hw (va_runV (As := [.int x3]) (rest := []) ⟨hx, hb, hml, hown, hts⟩ (c_X1_shorten (l := l) (G := G) (show 1 < 2 by decide) h) (cwV 1 hts gX0_countDraw_X1_shorten rfl rfl rfl (by decide +kernel) ⟨Nat.le_of_ble_eq_true rfl, Nat.le_of_ble_eq_true rfl⟩) (x_preV hG hw (xOh (q := 1) (by decide)) rfl) rfl rfl hl.1 rfl (lv_room (Nat.le_of_ble_eq_true rfl)) dX0_countDraw_59 ⟨Nat.le_of_ble_eq_true rfl, Nat.le_of_ble_eq_true rfl⟩) (fun A_1 L_2 H locs hw h => ?_)
  refine lv_aload_n hx hb dX0_countDraw_62 rfl (lv_at hl 0 rfl) ?_
  refine x_get (C := RX0) (T := TX0) (N := 6) hx hb hts inX0_countDraw_X0 hown hG hw xO14 rfl 0 (by decide) (hts (.fieldLink RX0 30 "SixNumbers$Box" "trial" "LSixNumbers$Heap;") (List.mem_of_getElem? (i := 2) rfl)) (fun _ h9 => h9) (v := .ref (xad G (2 + 6 * 1))) rfl dX0_countDraw_63 ?_
  refine x_callv hG hw (va_runV (As := []) (rest := []) ⟨hx, hb, hml, hown, hts⟩ (c_X1_refresh (l := l) (G := G) (show 1 < 2 by decide) h) (cwV 0 hts gX0_countDraw_X1_refresh rfl rfl rfl (by decide +kernel) ⟨Nat.le_of_ble_eq_true rfl, Nat.le_of_ble_eq_true rfl⟩) (x_preV hG hw (xOh (q := 1) (by decide)) rfl) rfl rfl hl.1 rfl (lv_room (Nat.le_of_ble_eq_true rfl)) dX0_countDraw_66 ⟨Nat.le_of_ble_eq_true rfl, Nat.le_of_ble_eq_true rfl⟩) (fun A_3 L_4 H locs hw h => ?_)
  refine lv_iconst (v := 1) hx hb dX0_countDraw_69 (by decide) ?_
  refine lv_istore (lv' := [(4, .int (1 : Int32)), (0, .ref (xad G 14)), (2, .ref (xad G g)), (3, .int x3)]) hx hb dX0_countDraw_70 hl (by decide) rfl (fun ls hl => ?_)
  obtain ⟨n9, h⟩ := h
  exact t_X0_countDraw_72 C0 hg n9 (1 : Int32) A_3 L_4 _ _ _ hw (lv_sub hl [1, 2, 0] rfl) h
set_option maxHeartbeats 4000000 in
set_option maxRecDepth 100000 in
theorem t_X0_countDraw_5 (C0 : xC p s m args meth c G cX0_countDraw none wsX0_countDraw RX0 5) {g : Nat} (hg : xIA g 3001) {post : xM → xL → Prop} {x1 : Int32} : ∀ (n : Nat) (x3 : Int32) (x4 : Int32) (A : xM) (L : xL) (H : Heap) (locs : List Loc) (ls : Array Slot), xW G s.heap A L H locs → lv_has ls 5 [(0, .ref (xad G 14)), (1, .int x1), (2, .ref (xad G g)), (3, .int x3), (4, .int x4)] → v_X0_countDraw_5 g x1 post n x3 x4 A L → W p l e rX0_countDraw s m args below meth c H locs 0 0 (MQ below (xQv G post) args s 0 0 (xAf G)) (F0 m 5 ls []) := by
  obtain ⟨hx, hb, hr, hts, hown, hml, hlocks, hG⟩ := id C0
  intro n
  induction n with
  | zero => intro x3 x4 A L H locs ls hw hl h; exact (show False from h).elim
  | succ n ih =>
    intro x3 x4 A L H locs ls hw hl h
    unfold v_X0_countDraw_5 at h
    refine lv_iload hx hb dX0_countDraw_5 (lv_at hl 4 rfl) ?_
    refine lv_aload_n hx hb dX0_countDraw_7 rfl (lv_at hl 0 rfl) ?_
    refine x_get (C := RX0) (T := TX0) (N := 6) hx hb hts inX0_countDraw_X0 hown hG hw xO14 rfl 2 (by decide) (hts (.fieldLink RX0 15 "SixNumbers$Box" "size" "I") (List.mem_of_getElem? (i := 1) rfl)) (fun _ h9 => h9) (v := .int (A 14 2)) rfl dX0_countDraw_8 ?_
    refine lv_icmp_ge (tgt := 54) hx hb dX0_countDraw_11 (by decide) (fun c_1 => ?_) (fun c_1 => ?_)
    · have h := h.1 c_1
      exact t_X0_countDraw_54 C0 hg hw (lv_sub hl [0, 2, 3] rfl) h
    · have h := h.2 c_1
      refine lv_iload hx hb dX0_countDraw_14 (lv_at hl 4 rfl) ?_
      refine lv_bipush (v := 10) hx hb dX0_countDraw_16 (by decide) ?_
      refine lv_icmp_ge (tgt := 54) hx hb dX0_countDraw_18 (by decide) (fun c_2 => ?_) (fun c_2 => ?_)
      · have h := h.1 c_2
        exact t_X0_countDraw_54 C0 hg hw (lv_sub hl [0, 2, 3] rfl) h
      · have h := h.2 c_2
        refine lv_iload_n hx hb dX0_countDraw_21 rfl (lv_at hl 1 rfl) ?_
        refine lv_iconst (v := 1) hx hb dX0_countDraw_22 (by decide) ?_
        refine lv_iload hx hb dX0_countDraw_23 (lv_at hl 4 rfl) ?_
        refine lv_ishl hx hb dX0_countDraw_25 ?_
        refine lv_iand hx hb dX0_countDraw_26 ?_
        refine lv_if_eq (tgt := 48) hx hb dX0_countDraw_27 (by decide) (fun c_3 => ?_) (fun c_3 => ?_)
        · have h := h.1 c_3
          obtain ⟨x4_4, ex4_4⟩ : ∃ y : Int32, y = x4 + (1 : Int32) := ⟨_, rfl⟩
          have h := h x4_4 ex4_4
          refine lv_iinc (v := x4_4) (lv' := [(4, .int x4_4), (0, .ref (xad G 14)), (1, .int x1), (2, .ref (xad G g)), (3, .int x3)]) hx hb dX0_countDraw_48 hl (k := 4) rfl (by rw [ex4_4]; rfl) (by decide) rfl (fun ls hl => ?_)
          refine lv_goto (tgt := 5) hx hb dX0_countDraw_51 (by decide) ?_
          exact ih x3 x4_4 A L _ _ _ hw (lv_sub hl [1, 2, 3, 4, 0] rfl) h
        · have h := h.2 c_3
          refine lv_aload_n hx hb dX0_countDraw_30 rfl (lv_at hl 0 rfl) ?_
          refine x_get (C := RX0) (T := TX0) (N := 6) hx hb hts inX0_countDraw_X0 hown hG hw xO14 rfl 0 (by decide) (hts (.fieldLink RX0 30 "SixNumbers$Box" "trial" "LSixNumbers$Heap;") (List.mem_of_getElem? (i := 2) rfl)) (fun _ h9 => h9) (v := .ref (xad G (2 + 6 * 1))) rfl dX0_countDraw_31 ?_
          refine lv_iload_n hx hb dX0_countDraw_34 rfl (lv_at hl 3 rfl) ?_
          refine lv_aload_n hx hb dX0_countDraw_35 rfl (lv_at hl 0 rfl) ?_
          refine x_get (C := RX0) (T := TX0) (N := 6) hx hb hts inX0_countDraw_X0 hown hG hw xO14 rfl 1 (by decide) (hts (.fieldLink RX0 9 "SixNumbers$Box" "cards" "[I") (List.mem_of_getElem? (i := 3) rfl)) (fun _ h9 => h9) (v := .ref (xad G 15)) rfl dX0_countDraw_36 ?_
          refine lv_iload hx hb dX0_countDraw_39 (lv_at hl 4 rfl) ?_
          have i_5 := h.1
          have h := h.2
          refine x_iald hx hb hG hw xb15 i_5 dX0_countDraw_41 ?_
          refine x_callv hG hw (va_runV (As := [.int x3, .int (A 15 x4.toNatClampNeg)]) (rest := []) ⟨hx, hb, hml, hown, hts⟩ (c_X1_place (l := l) (G := G) (show 1 < 2 by decide) h) (cwV 2 hts gX0_countDraw_X1_place rfl rfl rfl (by decide +kernel) ⟨Nat.le_of_ble_eq_true rfl, Nat.le_of_ble_eq_true rfl⟩) (x_preV hG hw (xOh (q := 1) (by decide)) rfl) rfl rfl hl.1 rfl (lv_room (Nat.le_of_ble_eq_true rfl)) dX0_countDraw_42 ⟨Nat.le_of_ble_eq_true rfl, Nat.le_of_ble_eq_true rfl⟩) (fun A_6 L_7 H locs hw h => ?_)
          obtain ⟨x3_8, ex3_8⟩ : ∃ y : Int32, y = x3 + (1 : Int32) := ⟨_, rfl⟩
          have h := h x3_8 ex3_8
          refine lv_iinc (v := x3_8) (lv' := [(3, .int x3_8), (0, .ref (xad G 14)), (1, .int x1), (2, .ref (xad G g)), (4, .int x4)]) hx hb dX0_countDraw_45 hl (k := 3) rfl (by rw [ex3_8]; rfl) (by decide) rfl (fun ls hl => ?_)
          obtain ⟨x4_9, ex4_9⟩ : ∃ y : Int32, y = x4 + (1 : Int32) := ⟨_, rfl⟩
          have h := h x4_9 ex4_9
          refine lv_iinc (v := x4_9) (lv' := [(4, .int x4_9), (3, .int x3_8), (0, .ref (xad G 14)), (1, .int x1), (2, .ref (xad G g))]) hx hb dX0_countDraw_48 hl (k := 4) rfl (by rw [ex4_9]; rfl) (by decide) rfl (fun ls hl => ?_)
          refine lv_goto (tgt := 5) hx hb dX0_countDraw_51 (by decide) ?_
          exact ih x3_8 x4_9 A_6 L_7 _ _ _ hw (lv_sub hl [2, 3, 4, 1, 0] rfl) h
set_option maxHeartbeats 4000000 in
set_option maxRecDepth 100000 in
theorem t_X0_countDraw_0 (C0 : xC p s m args meth c G cX0_countDraw none wsX0_countDraw RX0 5) {g : Nat} (hg : xIA g 3001) {post : xM → xL → Prop} {x1 : Int32} {A : xM} {L : xL} {H : Heap} {locs : List Loc} {ls : Array Slot} (hw : xW G s.heap A L H locs) (hl : lv_has ls 5 [(0, .ref (xad G 14)), (1, .int x1), (2, .ref (xad G g))]) (h : v_X0_countDraw g x1 A L post) : W p l e rX0_countDraw s m args below meth c H locs 0 0 (MQ below (xQv G post) args s 0 0 (xAf G)) (F0 m 0 ls []) := by
  obtain ⟨hx, hb, hr, hts, hown, hml, hlocks, hG⟩ := id C0
  unfold v_X0_countDraw at h
  refine lv_iconst (v := 0) hx hb dX0_countDraw_0 (by decide) ?_
  refine lv_istore_n (lv' := [(3, .int (0 : Int32)), (0, .ref (xad G 14)), (1, .int x1), (2, .ref (xad G g))]) hx hb dX0_countDraw_1 rfl hl (by decide) rfl (fun ls hl => ?_)
  refine lv_iconst (v := 0) hx hb dX0_countDraw_2 (by decide) ?_
  refine lv_istore (lv' := [(4, .int (0 : Int32)), (3, .int (0 : Int32)), (0, .ref (xad G 14)), (1, .int x1), (2, .ref (xad G g))]) hx hb dX0_countDraw_3 hl (by decide) rfl (fun ls hl => ?_)
  obtain ⟨n9, h⟩ := h
  exact t_X0_countDraw_5 C0 hg n9 (0 : Int32) (0 : Int32) A L _ _ _ hw (lv_sub hl [2, 3, 4, 1, 0] rfl) h
theorem c_X0_countDraw {l : Launch} {G : xGt} {g : Nat} (hg : xIA g 3001) {x1 : Int32} {A : xM} {L : xL} {post : xM → xL → Prop} (h : v_X0_countDraw g x1 A L post) : Met l yX0_countDraw wsX0_countDraw rX0_countDraw (va_Pc [.ref (xad G 14), .int x1, .ref (xad G g)] (xPre G A L)) (xQv G post) 0 0 (xAf G) :=
  x_met RX0 rfl (by decide) rfl (Nat.le_of_ble_eq_true rfl) (fun p e s m below meth c ls C0 hw hl => t_X0_countDraw_0 C0 hg hw hl h)
end MECH
abbrev rX0_countDraws : Room := { frames := 5, cells := 0, slots := 0, locals := 126 }
theorem inX0_countDraws_X0 : ∀ w ∈ wsX00, w ∈ wsX0_countDraws := fun w h => List.mem_cons_of_mem _ (List.mem_append_left _ (List.mem_append_left _ (List.mem_append_right _ h)))
def v_X0_countDraws_67 (x1 : Int32) (post : xM → xL → Prop) : Nat → Int32 → xM → xL → Prop
  | 0, _, _, _ => False
  | n + 1, x2, A, L => (((1 : Int32) <<< ((A 14 2) &&& 31)) ≤ x2 → (post A L)) ∧ (¬ ((1 : Int32) <<< ((A 14 2) &&& 31)) ≤ x2 → (v_J6_bitCount_0f7a4 x2 (fun (r_2 : Int32) => ((¬ r_2 = x1 → (∀ x2_4 : Int32, x2_4 = x2 + (1 : Int32) → (v_X0_countDraws_67 x1 post n x2_4 A L))) ∧ (r_2 = x1 → (vp_in x1 5 ∧ (∀ A_6 : xM, A_6 = xu A 17 x1.toNatClampNeg ((A 17 x1.toNatClampNeg) + (1 : Int32)) → (v_X0_countDraw (196 + x1.toNatClampNeg) x2 A_6 L (fun (A_7 : xM) (L_8 : xL) => (∀ x2_9 : Int32, x2_9 = x2 + (1 : Int32) → (v_X0_countDraws_67 x1 post n x2_9 A_7 L_8)))))))))))
def v_X0_countDraws_43 (x1 : Int32) (post : xM → xL → Prop) : Nat → Int32 → xM → xL → Prop
  | 0, _, _, _ => False
  | n + 1, x2, A, L => ((3000 : Int32) < x2 → (∃ k9 : Nat, v_X0_countDraws_67 x1 post k9 (1 : Int32) A L)) ∧ (¬ (3000 : Int32) < x2 → (vp_in x1 5 ∧ (vp_in x2 3001 ∧ (∀ A_4 : xM, A_4 = xu A (196 + x1.toNatClampNeg) x2.toNatClampNeg (0 : Int32) → (∀ x2_5 : Int32, x2_5 = x2 + (1 : Int32) → (v_X0_countDraws_43 x1 post n x2_5 A_4 L))))))
def v_X0_countDraws (x1 : Int32) (A : xM) (L : xL) (post : xM → xL → Prop) : Prop := (x1 < (1 : Int32) → (post A L)) ∧ (¬ x1 < (1 : Int32) → (((4 : Int32) < x1 → (post A L)) ∧ (¬ (4 : Int32) < x1 → ((((A 14 5) &&& ((1 : Int32) <<< (x1 &&& 31))) = 0 → (∀ A_4 : xM, A_4 = xu A 14 5 ((A 14 5) ||| ((1 : Int32) <<< (x1 &&& 31))) → (vp_in x1 5 ∧ (∀ A_6 : xM, A_6 = xu A_4 17 x1.toNatClampNeg (0 : Int32) → (∃ k9 : Nat, v_X0_countDraws_43 x1 post k9 (1 : Int32) A_6 L))))) ∧ (¬ ((A 14 5) &&& ((1 : Int32) <<< (x1 &&& 31))) = 0 → (post A L))))))
section MECH
variable {p : Program} {l : Launch} {e : Env} {s : State} {m : MethodId} {args : Array Value} {below : List Frame} {meth : Method} {c : Code} {G : xGt}
set_option maxHeartbeats 4000000 in
set_option maxRecDepth 100000 in
theorem t_X0_countDraws_67 (C0 : xC p s m args meth c G cX0_countDraws none wsX0_countDraws RX0 3) {post : xM → xL → Prop} {x1 : Int32} : ∀ (n : Nat) (x2 : Int32) (A : xM) (L : xL) (H : Heap) (locs : List Loc) (ls : Array Slot), xW G s.heap A L H locs → lv_has ls 3 [(0, .ref (xad G 14)), (1, .int x1), (2, .int x2)] → v_X0_countDraws_67 x1 post n x2 A L → W p l e rX0_countDraws s m args below meth c H locs 0 0 (MQ below (xQv G post) args s 0 0 (xAf G)) (F0 m 67 ls []) := by
  obtain ⟨hx, hb, hr, hts, hown, hml, hlocks, hG⟩ := id C0
  intro n
  induction n with
  | zero => intro x2 A L H locs ls hw hl h; exact (show False from h).elim
  | succ n ih =>
    intro x2 A L H locs ls hw hl h
    unfold v_X0_countDraws_67 at h
    refine lv_iload_n hx hb dX0_countDraws_67 rfl (lv_at hl 2 rfl) ?_
    refine lv_iconst (v := 1) hx hb dX0_countDraws_68 (by decide) ?_
    refine lv_aload_n hx hb dX0_countDraws_69 rfl (lv_at hl 0 rfl) ?_
    refine x_get (C := RX0) (T := TX0) (N := 6) hx hb hts inX0_countDraws_X0 hown hG hw xO14 rfl 2 (by decide) (hts (.fieldLink RX0 15 "SixNumbers$Box" "size" "I") (List.mem_of_getElem? (i := 4) rfl)) (fun _ h9 => h9) (v := .int (A 14 2)) rfl dX0_countDraws_70 ?_
    refine lv_ishl hx hb dX0_countDraws_73 ?_
    refine lv_icmp_ge (tgt := 112) hx hb dX0_countDraws_74 (by decide) (fun c_1 => ?_) (fun c_1 => ?_)
    · have h := h.1 c_1
      exact x_vret hx hb hr hlocks hG hw h dX0_countDraws_112
    · have h := h.2 c_1
      refine lv_iload_n hx hb dX0_countDraws_77 rfl (lv_at hl 2 rfl) ?_
      refine x_calli hG hw (va_runS (As := [.int x2]) (rest := []) ⟨hx, hb, hml, hown, hts⟩ (c_J6_bitCount_0f7a4 (l := l) (G := G) h) (va_cwS 1 hts gX0_countDraws_J6_bitCount_0f7a4 rfl rfl rfl (by decide +kernel) ⟨Nat.le_of_ble_eq_true rfl, Nat.le_of_ble_eq_true rfl⟩) (x_preS hG hw) rfl rfl hl.1 rfl (lv_room (Nat.le_of_ble_eq_true rfl)) dX0_countDraws_78 ⟨Nat.le_of_ble_eq_true rfl, Nat.le_of_ble_eq_true rfl⟩) (fun r_2 A9 L9 H locs hw h => ?_)
      rw [h.2.1, h.2.2] at hw
      have h := h.1
      refine lv_iload_n hx hb dX0_countDraws_81 rfl (lv_at hl 1 rfl) ?_
      refine lv_icmp_ne (tgt := 106) hx hb dX0_countDraws_82 (by decide) (fun c_3 => ?_) (fun c_3 => ?_)
      · have h := h.1 c_3
        obtain ⟨x2_4, ex2_4⟩ : ∃ y : Int32, y = x2 + (1 : Int32) := ⟨_, rfl⟩
        have h := h x2_4 ex2_4
        refine lv_iinc (v := x2_4) (lv' := [(2, .int x2_4), (0, .ref (xad G 14)), (1, .int x1)]) hx hb dX0_countDraws_106 hl (k := 2) rfl (by rw [ex2_4]; rfl) (by decide) rfl (fun ls hl => ?_)
        refine lv_goto (tgt := 67) hx hb dX0_countDraws_109 (by decide) ?_
        exact ih x2_4 A L _ _ _ hw (lv_sub hl [1, 2, 0] rfl) h
      · have h := h.2 c_3
        refine lv_aload_n hx hb dX0_countDraws_85 rfl (lv_at hl 0 rfl) ?_
        refine x_get (C := RX0) (T := TX0) (N := 6) hx hb hts inX0_countDraws_X0 hown hG hw xO14 rfl 4 (by decide) (hts (.fieldLink RX0 24 "SixNumbers$Box" "totals" "[I") (List.mem_of_getElem? (i := 2) rfl)) (fun _ h9 => h9) (v := .ref (xad G 17)) rfl dX0_countDraws_86 ?_
        refine lv_iload_n hx hb dX0_countDraws_89 rfl (lv_at hl 1 rfl) ?_
        refine lv_dup2_11 hx hb dX0_countDraws_90 rfl rfl ?_
        have i_5 := h.1
        have h := h.2
        refine x_iald hx hb hG hw xb17 i_5 dX0_countDraws_91 ?_
        refine lv_iconst (v := 1) hx hb dX0_countDraws_92 (by decide) ?_
        refine lv_iadd hx hb dX0_countDraws_93 ?_
        refine x_iast hx hb hG hw xb17 i_5 dX0_countDraws_94 (fun A_6 H locs eA_6 hw => ?_)
        have h := h A_6 eA_6
        refine lv_aload_n hx hb dX0_countDraws_95 rfl (lv_at hl 0 rfl) ?_
        refine lv_iload_n hx hb dX0_countDraws_96 rfl (lv_at hl 2 rfl) ?_
        refine lv_aload_n hx hb dX0_countDraws_97 rfl (lv_at hl 0 rfl) ?_
        refine x_get (C := RX0) (T := TX0) (N := 6) hx hb hts inX0_countDraws_X0 hown hG hw xO14 rfl 3 (by decide) (hts (.fieldLink RX0 21 "SixNumbers$Box" "tallies" "[[I") (List.mem_of_getElem? (i := 3) rfl)) (fun _ h9 => h9) (v := .ref (xad G 16)) rfl dX0_countDraws_98 ?_
        refine lv_iload_n hx hb dX0_countDraws_101 rfl (lv_at hl 1 rfl) ?_
        refine x_aald hx hb hG hw xb16 .int rfl i_5 dX0_countDraws_102 ?_
        refine x_callv hG hw (va_runV (As := [.int x2, .ref (xad G (196 + x1.toNatClampNeg))]) (rest := []) ⟨hx, hb, hml, hown, hts⟩ (c_X0_countDraw (l := l) (G := G) (xrT i_5) h) (cwV 2 hts gX0_countDraws_X0_countDraw rfl rfl rfl (by decide +kernel) ⟨Nat.le_of_ble_eq_true rfl, Nat.le_of_ble_eq_true rfl⟩) (x_preV hG hw xO14 rfl) rfl rfl hl.1 rfl (lv_room (Nat.le_of_ble_eq_true rfl)) dX0_countDraws_103 ⟨Nat.le_of_ble_eq_true rfl, Nat.le_of_ble_eq_true rfl⟩) (fun A_7 L_8 H locs hw h => ?_)
        obtain ⟨x2_9, ex2_9⟩ : ∃ y : Int32, y = x2 + (1 : Int32) := ⟨_, rfl⟩
        have h := h x2_9 ex2_9
        refine lv_iinc (v := x2_9) (lv' := [(2, .int x2_9), (0, .ref (xad G 14)), (1, .int x1)]) hx hb dX0_countDraws_106 hl (k := 2) rfl (by rw [ex2_9]; rfl) (by decide) rfl (fun ls hl => ?_)
        refine lv_goto (tgt := 67) hx hb dX0_countDraws_109 (by decide) ?_
        exact ih x2_9 A_7 L_8 _ _ _ hw (lv_sub hl [1, 2, 0] rfl) h
set_option maxHeartbeats 4000000 in
set_option maxRecDepth 100000 in
theorem t_X0_countDraws_43 (C0 : xC p s m args meth c G cX0_countDraws none wsX0_countDraws RX0 3) {post : xM → xL → Prop} {x1 : Int32} : ∀ (n : Nat) (x2 : Int32) (A : xM) (L : xL) (H : Heap) (locs : List Loc) (ls : Array Slot), xW G s.heap A L H locs → lv_has ls 3 [(0, .ref (xad G 14)), (1, .int x1), (2, .int x2)] → v_X0_countDraws_43 x1 post n x2 A L → W p l e rX0_countDraws s m args below meth c H locs 0 0 (MQ below (xQv G post) args s 0 0 (xAf G)) (F0 m 43 ls []) := by
  obtain ⟨hx, hb, hr, hts, hown, hml, hlocks, hG⟩ := id C0
  intro n
  induction n with
  | zero => intro x2 A L H locs ls hw hl h; exact (show False from h).elim
  | succ n ih =>
    intro x2 A L H locs ls hw hl h
    unfold v_X0_countDraws_43 at h
    refine lv_iload_n hx hb dX0_countDraws_43 rfl (lv_at hl 2 rfl) ?_
    refine lv_sipush (v := 3000) hx hb dX0_countDraws_44 (by decide) ?_
    refine lv_icmp_gt (tgt := 65) hx hb dX0_countDraws_47 (by decide) (fun c_1 => ?_) (fun c_1 => ?_)
    · have h := h.1 c_1
      refine lv_iconst (v := 1) hx hb dX0_countDraws_65 (by decide) ?_
      refine lv_istore_n (lv' := [(2, .int (1 : Int32)), (0, .ref (xad G 14)), (1, .int x1)]) hx hb dX0_countDraws_66 rfl hl (by decide) rfl (fun ls hl => ?_)
      obtain ⟨n9, h⟩ := h
      exact t_X0_countDraws_67 C0 n9 (1 : Int32) A L _ _ _ hw (lv_sub hl [1, 2, 0] rfl) h
    · have h := h.2 c_1
      refine lv_aload_n hx hb dX0_countDraws_50 rfl (lv_at hl 0 rfl) ?_
      refine x_get (C := RX0) (T := TX0) (N := 6) hx hb hts inX0_countDraws_X0 hown hG hw xO14 rfl 3 (by decide) (hts (.fieldLink RX0 21 "SixNumbers$Box" "tallies" "[[I") (List.mem_of_getElem? (i := 3) rfl)) (fun _ h9 => h9) (v := .ref (xad G 16)) rfl dX0_countDraws_51 ?_
      refine lv_iload_n hx hb dX0_countDraws_54 rfl (lv_at hl 1 rfl) ?_
      have i_2 := h.1
      have h := h.2
      refine x_aald hx hb hG hw xb16 .int rfl i_2 dX0_countDraws_55 ?_
      refine lv_iload_n hx hb dX0_countDraws_56 rfl (lv_at hl 2 rfl) ?_
      refine lv_iconst (v := 0) hx hb dX0_countDraws_57 (by decide) ?_
      have i_3 := h.1
      have h := h.2
      refine x_iast hx hb hG hw (xrT i_2) i_3 dX0_countDraws_58 (fun A_4 H locs eA_4 hw => ?_)
      have h := h A_4 eA_4
      obtain ⟨x2_5, ex2_5⟩ : ∃ y : Int32, y = x2 + (1 : Int32) := ⟨_, rfl⟩
      have h := h x2_5 ex2_5
      refine lv_iinc (v := x2_5) (lv' := [(2, .int x2_5), (0, .ref (xad G 14)), (1, .int x1)]) hx hb dX0_countDraws_59 hl (k := 2) rfl (by rw [ex2_5]; rfl) (by decide) rfl (fun ls hl => ?_)
      refine lv_goto (tgt := 43) hx hb dX0_countDraws_62 (by decide) ?_
      exact ih x2_5 A_4 L _ _ _ hw (lv_sub hl [1, 2, 0] rfl) h
set_option maxHeartbeats 4000000 in
set_option maxRecDepth 100000 in
theorem t_X0_countDraws_0 (C0 : xC p s m args meth c G cX0_countDraws none wsX0_countDraws RX0 3) {post : xM → xL → Prop} {x1 : Int32} {A : xM} {L : xL} {H : Heap} {locs : List Loc} {ls : Array Slot} (hw : xW G s.heap A L H locs) (hl : lv_has ls 3 [(0, .ref (xad G 14)), (1, .int x1)]) (h : v_X0_countDraws x1 A L post) : W p l e rX0_countDraws s m args below meth c H locs 0 0 (MQ below (xQv G post) args s 0 0 (xAf G)) (F0 m 0 ls []) := by
  obtain ⟨hx, hb, hr, hts, hown, hml, hlocks, hG⟩ := id C0
  unfold v_X0_countDraws at h
  refine lv_iload_n hx hb dX0_countDraws_0 rfl (lv_at hl 1 rfl) ?_
  refine lv_iconst (v := 1) hx hb dX0_countDraws_1 (by decide) ?_
  refine lv_icmp_lt (tgt := 21) hx hb dX0_countDraws_2 (by decide) (fun c_1 => ?_) (fun c_1 => ?_)
  · have h := h.1 c_1
    exact x_vret hx hb hr hlocks hG hw h dX0_countDraws_21
  · have h := h.2 c_1
    refine lv_iload_n hx hb dX0_countDraws_5 rfl (lv_at hl 1 rfl) ?_
    refine lv_iconst (v := 4) hx hb dX0_countDraws_6 (by decide) ?_
    refine lv_icmp_gt (tgt := 21) hx hb dX0_countDraws_7 (by decide) (fun c_2 => ?_) (fun c_2 => ?_)
    · have h := h.1 c_2
      exact x_vret hx hb hr hlocks hG hw h dX0_countDraws_21
    · have h := h.2 c_2
      refine lv_aload_n hx hb dX0_countDraws_10 rfl (lv_at hl 0 rfl) ?_
      refine x_get (C := RX0) (T := TX0) (N := 6) hx hb hts inX0_countDraws_X0 hown hG hw xO14 rfl 5 (by decide) (hts (.fieldLink RX0 27 "SixNumbers$Box" "counted" "I") (List.mem_of_getElem? (i := 1) rfl)) (fun _ h9 => h9) (v := .int (A 14 5)) rfl dX0_countDraws_11 ?_
      refine lv_iconst (v := 1) hx hb dX0_countDraws_14 (by decide) ?_
      refine lv_iload_n hx hb dX0_countDraws_15 rfl (lv_at hl 1 rfl) ?_
      refine lv_ishl hx hb dX0_countDraws_16 ?_
      refine lv_iand hx hb dX0_countDraws_17 ?_
      refine lv_if_eq (tgt := 22) hx hb dX0_countDraws_18 (by decide) (fun c_3 => ?_) (fun c_3 => ?_)
      · have h := h.1 c_3
        refine lv_aload_n hx hb dX0_countDraws_22 rfl (lv_at hl 0 rfl) ?_
        refine lv_dup hx hb dX0_countDraws_23 rfl ?_
        refine x_get (C := RX0) (T := TX0) (N := 6) hx hb hts inX0_countDraws_X0 hown hG hw xO14 rfl 5 (by decide) (hts (.fieldLink RX0 27 "SixNumbers$Box" "counted" "I") (List.mem_of_getElem? (i := 1) rfl)) (fun _ h9 => h9) (v := .int (A 14 5)) rfl dX0_countDraws_24 ?_
        refine lv_iconst (v := 1) hx hb dX0_countDraws_27 (by decide) ?_
        refine lv_iload_n hx hb dX0_countDraws_28 rfl (lv_at hl 1 rfl) ?_
        refine lv_ishl hx hb dX0_countDraws_29 ?_
        refine lv_ior hx hb dX0_countDraws_30 ?_
        refine x_put (C := RX0) (T := TX0) (N := 6) hx hb hts inX0_countDraws_X0 tyX0 tyX0_ok nmX0 hown hG hw xO14 rfl 5 (by decide) (hts (.fieldLink RX0 27 "SixNumbers$Box" "counted" "I") (List.mem_of_getElem? (i := 1) rfl)) (fun _ h9 => h9) rfl (ty := .int) (by decide +kernel) rfl rfl (Nat.le_of_ble_eq_true rfl) rfl dX0_countDraws_31 (fun A_4 H locs eA_4 hw => ?_)
        have h := h A_4 eA_4
        refine lv_aload_n hx hb dX0_countDraws_34 rfl (lv_at hl 0 rfl) ?_
        refine x_get (C := RX0) (T := TX0) (N := 6) hx hb hts inX0_countDraws_X0 hown hG hw xO14 rfl 4 (by decide) (hts (.fieldLink RX0 24 "SixNumbers$Box" "totals" "[I") (List.mem_of_getElem? (i := 2) rfl)) (fun _ h9 => h9) (v := .ref (xad G 17)) rfl dX0_countDraws_35 ?_
        refine lv_iload_n hx hb dX0_countDraws_38 rfl (lv_at hl 1 rfl) ?_
        refine lv_iconst (v := 0) hx hb dX0_countDraws_39 (by decide) ?_
        have i_5 := h.1
        have h := h.2
        refine x_iast hx hb hG hw xb17 i_5 dX0_countDraws_40 (fun A_6 H locs eA_6 hw => ?_)
        have h := h A_6 eA_6
        refine lv_iconst (v := 1) hx hb dX0_countDraws_41 (by decide) ?_
        refine lv_istore_n (lv' := [(2, .int (1 : Int32)), (0, .ref (xad G 14)), (1, .int x1)]) hx hb dX0_countDraws_42 rfl hl (by decide) rfl (fun ls hl => ?_)
        obtain ⟨n9, h⟩ := h
        exact t_X0_countDraws_43 C0 n9 (1 : Int32) A_6 L _ _ _ hw (lv_sub hl [1, 2, 0] rfl) h
      · have h := h.2 c_3
        exact x_vret hx hb hr hlocks hG hw h dX0_countDraws_21
theorem c_X0_countDraws {l : Launch} {G : xGt} {x1 : Int32} {A : xM} {L : xL} {post : xM → xL → Prop} (h : v_X0_countDraws x1 A L post) : Met l yX0_countDraws wsX0_countDraws rX0_countDraws (va_Pc [.ref (xad G 14), .int x1] (xPre G A L)) (xQv G post) 0 0 (xAf G) :=
  x_met RX0 rfl (by decide) rfl (Nat.le_of_ble_eq_true rfl) (fun p e s m below meth c ls C0 hw hl => t_X0_countDraws_0 C0 hw hl h)
end MECH
abbrev rX2_add : Room := { frames := 0, cells := 0, slots := 0, locals := 0 }
theorem inX2_add_X2 : ∀ w ∈ wsX20, w ∈ wsX2_add := fun w h => List.mem_cons_of_mem _ (List.mem_append_right _ h)
def v_X2_add (x1 : Int32) (A : xM) (L : xL) (post : xM → xL → Prop) : Prop := ((A 18 1) < 0 → (post A L)) ∧ (¬ (A 18 1) < 0 → (((nI 33) ≤ (A 18 1) → (post A L)) ∧ (¬ (nI 33) ≤ (A 18 1) → (vp_in (A 18 1) 33 ∧ (∀ A_4 : xM, A_4 = xu A 19 (A 18 1).toNatClampNeg (vp_nar .char x1) → (∀ A_5 : xM, A_5 = xu A_4 18 1 ((A_4 18 1) + (1 : Int32)) → (post A_5 L)))))))
section MECH
variable {p : Program} {l : Launch} {e : Env} {s : State} {m : MethodId} {args : Array Value} {below : List Frame} {meth : Method} {c : Code} {G : xGt}
set_option maxHeartbeats 4000000 in
set_option maxRecDepth 100000 in
theorem t_X2_add_0 (C0 : xC p s m args meth c G cX2_add none wsX2_add RX2 2) {post : xM → xL → Prop} {x1 : Int32} {A : xM} {L : xL} {H : Heap} {locs : List Loc} {ls : Array Slot} (hw : xW G s.heap A L H locs) (hl : lv_has ls 2 [(0, .ref (xad G 18)), (1, .int x1)]) (h : v_X2_add x1 A L post) : W p l e rX2_add s m args below meth c H locs 0 0 (MQ below (xQv G post) args s 0 0 (xAf G)) (F0 m 0 ls []) := by
  obtain ⟨hx, hb, hr, hts, hown, hml, hlocks, hG⟩ := id C0
  unfold v_X2_add at h
  refine lv_aload_n hx hb dX2_add_0 rfl (lv_at hl 0 rfl) ?_
  refine x_get (C := RX2) (T := TX2) (N := 2) hx hb hts inX2_add_X2 hown hG hw xO18 rfl 1 (by decide) (hts (.fieldLink RX2 15 "SixNumbers$Out" "length" "I") (List.mem_of_getElem? (i := 1) rfl)) (fun _ h9 => h9) (v := .int (A 18 1)) rfl dX2_add_1 ?_
  refine lv_if_lt (tgt := 39) hx hb dX2_add_4 (by decide) (fun c_1 => ?_) (fun c_1 => ?_)
  · have h := h.1 c_1
    exact x_vret hx hb hr hlocks hG hw h dX2_add_39
  · have h := h.2 c_1
    refine lv_aload_n hx hb dX2_add_7 rfl (lv_at hl 0 rfl) ?_
    refine x_get (C := RX2) (T := TX2) (N := 2) hx hb hts inX2_add_X2 hown hG hw xO18 rfl 1 (by decide) (hts (.fieldLink RX2 15 "SixNumbers$Out" "length" "I") (List.mem_of_getElem? (i := 1) rfl)) (fun _ h9 => h9) (v := .int (A 18 1)) rfl dX2_add_8 ?_
    refine lv_aload_n hx hb dX2_add_11 rfl (lv_at hl 0 rfl) ?_
    refine x_get (C := RX2) (T := TX2) (N := 2) hx hb hts inX2_add_X2 hown hG hw xO18 rfl 0 (by decide) (hts (.fieldLink RX2 9 "SixNumbers$Out" "text" "[C") (List.mem_of_getElem? (i := 2) rfl)) (fun _ h9 => h9) (v := .ref (xad G 19)) rfl dX2_add_12 ?_
    refine x_alenC hx hb hG hw xb19 dX2_add_15 ?_
    refine lv_icmp_ge (tgt := 39) hx hb dX2_add_16 (by decide) (fun c_2 => ?_) (fun c_2 => ?_)
    · have h := h.1 c_2
      exact x_vret hx hb hr hlocks hG hw h dX2_add_39
    · have h := h.2 c_2
      refine lv_aload_n hx hb dX2_add_19 rfl (lv_at hl 0 rfl) ?_
      refine x_get (C := RX2) (T := TX2) (N := 2) hx hb hts inX2_add_X2 hown hG hw xO18 rfl 0 (by decide) (hts (.fieldLink RX2 9 "SixNumbers$Out" "text" "[C") (List.mem_of_getElem? (i := 2) rfl)) (fun _ h9 => h9) (v := .ref (xad G 19)) rfl dX2_add_20 ?_
      refine lv_aload_n hx hb dX2_add_23 rfl (lv_at hl 0 rfl) ?_
      refine x_get (C := RX2) (T := TX2) (N := 2) hx hb hts inX2_add_X2 hown hG hw xO18 rfl 1 (by decide) (hts (.fieldLink RX2 15 "SixNumbers$Out" "length" "I") (List.mem_of_getElem? (i := 1) rfl)) (fun _ h9 => h9) (v := .int (A 18 1)) rfl dX2_add_24 ?_
      refine lv_iload_n hx hb dX2_add_27 rfl (lv_at hl 1 rfl) ?_
      have i_3 := h.1
      have h := h.2
      refine x_cast hx hb hG hw xb19 i_3 dX2_add_28 (fun A_4 H locs eA_4 hw => ?_)
      have h := h A_4 eA_4
      refine lv_aload_n hx hb dX2_add_29 rfl (lv_at hl 0 rfl) ?_
      refine lv_dup hx hb dX2_add_30 rfl ?_
      refine x_get (C := RX2) (T := TX2) (N := 2) hx hb hts inX2_add_X2 hown hG hw xO18 rfl 1 (by decide) (hts (.fieldLink RX2 15 "SixNumbers$Out" "length" "I") (List.mem_of_getElem? (i := 1) rfl)) (fun _ h9 => h9) (v := .int (A_4 18 1)) rfl dX2_add_31 ?_
      refine lv_iconst (v := 1) hx hb dX2_add_34 (by decide) ?_
      refine lv_iadd hx hb dX2_add_35 ?_
      refine x_put (C := RX2) (T := TX2) (N := 2) hx hb hts inX2_add_X2 tyX2 tyX2_ok nmX2 hown hG hw xO18 rfl 1 (by decide) (hts (.fieldLink RX2 15 "SixNumbers$Out" "length" "I") (List.mem_of_getElem? (i := 1) rfl)) (fun _ h9 => h9) rfl (ty := .int) (by decide +kernel) rfl rfl (Nat.le_of_ble_eq_true rfl) rfl dX2_add_36 (fun A_5 H locs eA_5 hw => ?_)
      have h := h A_5 eA_5
      exact x_vret hx hb hr hlocks hG hw h dX2_add_39
theorem c_X2_add {l : Launch} {G : xGt} {x1 : Int32} {A : xM} {L : xL} {post : xM → xL → Prop} (h : v_X2_add x1 A L post) : Met l yX2_add wsX2_add rX2_add (va_Pc [.ref (xad G 18), .int x1] (xPre G A L)) (xQv G post) 0 0 (xAf G) :=
  x_met RX2 rfl (by decide) rfl (Nat.le_of_ble_eq_true rfl) (fun p e s m below meth c ls C0 hw hl => t_X2_add_0 C0 hw hl h)
end MECH
abbrev rX2_addNumber : Room := { frames := 1, cells := 0, slots := 0, locals := 21 }
def v_X2_addNumber_27 (x1 : Int32) (x2 : Int32) (A : xM) (L : xL) (R_4 : Int32 → xM → xL → Prop) (post : xM → xL → Prop) : Prop := ∀ x2_1 : Int32, x2_1 = (x2 / (10 : Int32)) → (R_4 x2_1 A L)
def v_X2_addNumber_4 (x1 : Int32) (post : xM → xL → Prop) : Nat → Int32 → xM → xL → Prop
  | 0, _, _, _ => False
  | n + 1, x2, A, L => (x2 ≤ 0 → (post A L)) ∧ (¬ x2 ≤ 0 → ((x1 < x2 → (v_X2_addNumber_27 x1 x2 A L (fun x2 A L => v_X2_addNumber_4 x1 post n x2 A L) post)) ∧ (¬ x1 < x2 → (¬ x2 = 0 ∧ (v_X2_add ((((48 : Int32) + ((x1 / x2) - (x1 / x2) / (10 : Int32) * (10 : Int32)))).toUInt32 % 65536).toInt32 A L (fun (A_4 : xM) (L_5 : xL) => (v_X2_addNumber_27 x1 x2 A_4 L_5 (fun x2 A L => v_X2_addNumber_4 x1 post n x2 A L) post)))))))
def v_X2_addNumber (x1 : Int32) (A : xM) (L : xL) (post : xM → xL → Prop) : Prop := ∃ k9 : Nat, v_X2_addNumber_4 x1 post k9 (1000 : Int32) A L
section MECH
variable {p : Program} {l : Launch} {e : Env} {s : State} {m : MethodId} {args : Array Value} {below : List Frame} {meth : Method} {c : Code} {G : xGt}
set_option maxHeartbeats 4000000 in
set_option maxRecDepth 100000 in
theorem t_X2_addNumber_27 (C0 : xC p s m args meth c G cX2_addNumber none wsX2_addNumber RX2 3) {post : xM → xL → Prop} {x1 : Int32} {x2 : Int32} {A : xM} {L : xL} {R_4 : Int32 → xM → xL → Prop} (hR_4 : ∀ (x2 : Int32) (A : xM) (L : xL) (H : Heap) (locs : List Loc) (ls : Array Slot), xW G s.heap A L H locs → lv_has ls 3 [(0, .ref (xad G 18)), (1, .int x1), (2, .int x2)] → R_4 x2 A L → W p l e rX2_addNumber s m args below meth c H locs 0 0 (MQ below (xQv G post) args s 0 0 (xAf G)) (F0 m 4 ls [])) {H : Heap} {locs : List Loc} {ls : Array Slot} (hw : xW G s.heap A L H locs) (hl : lv_has ls 3 [(0, .ref (xad G 18)), (1, .int x1), (2, .int x2)]) (h : v_X2_addNumber_27 x1 x2 A L R_4 post) : W p l e rX2_addNumber s m args below meth c H locs 0 0 (MQ below (xQv G post) args s 0 0 (xAf G)) (F0 m 27 ls []) := by
  obtain ⟨hx, hb, hr, hts, hown, hml, hlocks, hG⟩ := id C0
  unfold v_X2_addNumber_27 at h
  refine lv_iload_n hx hb dX2_addNumber_27 rfl (lv_at hl 2 rfl) ?_
  refine lv_bipush (v := 10) hx hb dX2_addNumber_28 (by decide) ?_
  refine lv_idiv hx hb dX2_addNumber_30 (by decide) ?_
  refine lv_topi (fun x2_1 ex2_1 => ?_)
  have h := h x2_1 ex2_1
  refine lv_istore_n (lv' := [(2, .int x2_1), (0, .ref (xad G 18)), (1, .int x1)]) hx hb dX2_addNumber_31 rfl hl (by decide) rfl (fun ls hl => ?_)
  refine lv_goto (tgt := 4) hx hb dX2_addNumber_32 (by decide) ?_
  exact hR_4 x2_1 A L _ _ _ hw (lv_sub hl [1, 2, 0] rfl) h
set_option maxHeartbeats 4000000 in
set_option maxRecDepth 100000 in
theorem t_X2_addNumber_4 (C0 : xC p s m args meth c G cX2_addNumber none wsX2_addNumber RX2 3) {post : xM → xL → Prop} {x1 : Int32} : ∀ (n : Nat) (x2 : Int32) (A : xM) (L : xL) (H : Heap) (locs : List Loc) (ls : Array Slot), xW G s.heap A L H locs → lv_has ls 3 [(0, .ref (xad G 18)), (1, .int x1), (2, .int x2)] → v_X2_addNumber_4 x1 post n x2 A L → W p l e rX2_addNumber s m args below meth c H locs 0 0 (MQ below (xQv G post) args s 0 0 (xAf G)) (F0 m 4 ls []) := by
  obtain ⟨hx, hb, hr, hts, hown, hml, hlocks, hG⟩ := id C0
  intro n
  induction n with
  | zero => intro x2 A L H locs ls hw hl h; exact (show False from h).elim
  | succ n ih =>
    intro x2 A L H locs ls hw hl h
    unfold v_X2_addNumber_4 at h
    refine lv_iload_n hx hb dX2_addNumber_4 rfl (lv_at hl 2 rfl) ?_
    refine lv_if_le (tgt := 35) hx hb dX2_addNumber_5 (by decide) (fun c_1 => ?_) (fun c_1 => ?_)
    · have h := h.1 c_1
      exact x_vret hx hb hr hlocks hG hw h dX2_addNumber_35
    · have h := h.2 c_1
      refine lv_iload_n hx hb dX2_addNumber_8 rfl (lv_at hl 1 rfl) ?_
      refine lv_iload_n hx hb dX2_addNumber_9 rfl (lv_at hl 2 rfl) ?_
      refine lv_icmp_lt (tgt := 27) hx hb dX2_addNumber_10 (by decide) (fun c_2 => ?_) (fun c_2 => ?_)
      · have h := h.1 c_2
        exact t_X2_addNumber_27 C0 ih hw (lv_sub hl [0, 1, 2] rfl) h
      · have h := h.2 c_2
        refine lv_aload_n hx hb dX2_addNumber_13 rfl (lv_at hl 0 rfl) ?_
        refine lv_bipush (v := 48) hx hb dX2_addNumber_14 (by decide) ?_
        refine lv_iload_n hx hb dX2_addNumber_16 rfl (lv_at hl 1 rfl) ?_
        refine lv_iload_n hx hb dX2_addNumber_17 rfl (lv_at hl 2 rfl) ?_
        have z_3 := h.1
        have h := h.2
        refine lv_idiv hx hb dX2_addNumber_18 z_3 ?_
        refine lv_bipush (v := 10) hx hb dX2_addNumber_19 (by decide) ?_
        refine lv_irem hx hb dX2_addNumber_21 (by decide) ?_
        refine lv_iadd hx hb dX2_addNumber_22 ?_
        refine lv_i2c hx hb dX2_addNumber_23 rfl ?_
        refine x_callv hG hw (va_runV (As := [.int ((((48 : Int32) + ((x1 / x2) - (x1 / x2) / (10 : Int32) * (10 : Int32)))).toUInt32 % 65536).toInt32]) (rest := []) ⟨hx, hb, hml, hown, hts⟩ (c_X2_add (l := l) (G := G) h) (cwV 1 hts gX2_addNumber_X2_add rfl rfl rfl (by decide +kernel) ⟨Nat.le_of_ble_eq_true rfl, Nat.le_of_ble_eq_true rfl⟩) (x_preV hG hw xO18 rfl) rfl rfl hl.1 rfl (lv_room (Nat.le_of_ble_eq_true rfl)) dX2_addNumber_24 ⟨Nat.le_of_ble_eq_true rfl, Nat.le_of_ble_eq_true rfl⟩) (fun A_4 L_5 H locs hw h => ?_)
        exact t_X2_addNumber_27 C0 ih hw (lv_sub hl [0, 1, 2] rfl) h
set_option maxHeartbeats 4000000 in
set_option maxRecDepth 100000 in
theorem t_X2_addNumber_0 (C0 : xC p s m args meth c G cX2_addNumber none wsX2_addNumber RX2 3) {post : xM → xL → Prop} {x1 : Int32} {A : xM} {L : xL} {H : Heap} {locs : List Loc} {ls : Array Slot} (hw : xW G s.heap A L H locs) (hl : lv_has ls 3 [(0, .ref (xad G 18)), (1, .int x1)]) (h : v_X2_addNumber x1 A L post) : W p l e rX2_addNumber s m args below meth c H locs 0 0 (MQ below (xQv G post) args s 0 0 (xAf G)) (F0 m 0 ls []) := by
  obtain ⟨hx, hb, hr, hts, hown, hml, hlocks, hG⟩ := id C0
  unfold v_X2_addNumber at h
  refine lv_sipush (v := 1000) hx hb dX2_addNumber_0 (by decide) ?_
  refine lv_istore_n (lv' := [(2, .int (1000 : Int32)), (0, .ref (xad G 18)), (1, .int x1)]) hx hb dX2_addNumber_3 rfl hl (by decide) rfl (fun ls hl => ?_)
  obtain ⟨n9, h⟩ := h
  exact t_X2_addNumber_4 C0 n9 (1000 : Int32) A L _ _ _ hw (lv_sub hl [1, 2, 0] rfl) h
theorem c_X2_addNumber {l : Launch} {G : xGt} {x1 : Int32} {A : xM} {L : xL} {post : xM → xL → Prop} (h : v_X2_addNumber x1 A L post) : Met l yX2_addNumber wsX2_addNumber rX2_addNumber (va_Pc [.ref (xad G 18), .int x1] (xPre G A L)) (xQv G post) 0 0 (xAf G) :=
  x_met RX2 rfl (by decide) rfl (Nat.le_of_ble_eq_true rfl) (fun p e s m below meth c ls C0 hw hl => t_X2_addNumber_0 C0 hw hl h)
end MECH
abbrev rX2_byteAt : Room := { frames := 0, cells := 0, slots := 0, locals := 0 }
theorem inX2_byteAt_X2 : ∀ w ∈ wsX20, w ∈ wsX2_byteAt := fun w h => List.mem_cons_of_mem _ (List.mem_append_right _ h)
def v_X2_byteAt (x1 : Int32) (A : xM) (L : xL) (post : Int32 → Prop) : Prop := (x1 < 0 → (post (-1 : Int32))) ∧ (¬ x1 < 0 → (((A 18 1) ≤ x1 → (post (-1 : Int32))) ∧ (¬ (A 18 1) ≤ x1 → ((x1 < (nI 33) → (vp_in x1 33 ∧ (post (A 19 x1.toNatClampNeg)))) ∧ (¬ x1 < (nI 33) → (post (-1 : Int32)))))))
section MECH
variable {p : Program} {l : Launch} {e : Env} {s : State} {m : MethodId} {args : Array Value} {below : List Frame} {meth : Method} {c : Code} {G : xGt}
set_option maxHeartbeats 4000000 in
set_option maxRecDepth 100000 in
theorem t_X2_byteAt_0 (C0 : xC p s m args meth c G cX2_byteAt (some .int) wsX2_byteAt RX2 2) {post : Int32 → Prop} {x1 : Int32} {A : xM} {L : xL} {H : Heap} {locs : List Loc} {ls : Array Slot} (hw : xW G s.heap A L H locs) (hl : lv_has ls 2 [(0, .ref (xad G 18)), (1, .int x1)]) (h : v_X2_byteAt x1 A L post) : W p l e rX2_byteAt s m args below meth c H locs 0 0 (MQ below (xQi G (xpi A L post)) args s 0 0 (xAf G)) (F0 m 0 ls []) := by
  obtain ⟨hx, hb, hr, hts, hown, hml, hlocks, hG⟩ := id C0
  unfold v_X2_byteAt at h
  refine lv_iload_n hx hb dX2_byteAt_0 rfl (lv_at hl 1 rfl) ?_
  refine lv_if_lt (tgt := 21) hx hb dX2_byteAt_1 (by decide) (fun c_1 => ?_) (fun c_1 => ?_)
  · have h := h.1 c_1
    refine lv_iconst (v := (-1)) hx hb dX2_byteAt_21 (by decide) ?_
    refine lv_goto (tgt := 31) hx hb dX2_byteAt_22 (by decide) ?_
    exact x_iret hx hb hr hlocks hG hw ⟨h, rfl, rfl⟩ dX2_byteAt_31
  · have h := h.2 c_1
    refine lv_iload_n hx hb dX2_byteAt_4 rfl (lv_at hl 1 rfl) ?_
    refine lv_aload_n hx hb dX2_byteAt_5 rfl (lv_at hl 0 rfl) ?_
    refine x_get (C := RX2) (T := TX2) (N := 2) hx hb hts inX2_byteAt_X2 hown hG hw xO18 rfl 1 (by decide) (hts (.fieldLink RX2 15 "SixNumbers$Out" "length" "I") (List.mem_of_getElem? (i := 1) rfl)) (fun _ h9 => h9) (v := .int (A 18 1)) rfl dX2_byteAt_6 ?_
    refine lv_icmp_ge (tgt := 21) hx hb dX2_byteAt_9 (by decide) (fun c_2 => ?_) (fun c_2 => ?_)
    · have h := h.1 c_2
      refine lv_iconst (v := (-1)) hx hb dX2_byteAt_21 (by decide) ?_
      refine lv_goto (tgt := 31) hx hb dX2_byteAt_22 (by decide) ?_
      exact x_iret hx hb hr hlocks hG hw ⟨h, rfl, rfl⟩ dX2_byteAt_31
    · have h := h.2 c_2
      refine lv_iload_n hx hb dX2_byteAt_12 rfl (lv_at hl 1 rfl) ?_
      refine lv_aload_n hx hb dX2_byteAt_13 rfl (lv_at hl 0 rfl) ?_
      refine x_get (C := RX2) (T := TX2) (N := 2) hx hb hts inX2_byteAt_X2 hown hG hw xO18 rfl 0 (by decide) (hts (.fieldLink RX2 9 "SixNumbers$Out" "text" "[C") (List.mem_of_getElem? (i := 2) rfl)) (fun _ h9 => h9) (v := .ref (xad G 19)) rfl dX2_byteAt_14 ?_
      refine x_alenC hx hb hG hw xb19 dX2_byteAt_17 ?_
      refine lv_icmp_lt (tgt := 25) hx hb dX2_byteAt_18 (by decide) (fun c_3 => ?_) (fun c_3 => ?_)
      · have h := h.1 c_3
        refine lv_aload_n hx hb dX2_byteAt_25 rfl (lv_at hl 0 rfl) ?_
        refine x_get (C := RX2) (T := TX2) (N := 2) hx hb hts inX2_byteAt_X2 hown hG hw xO18 rfl 0 (by decide) (hts (.fieldLink RX2 9 "SixNumbers$Out" "text" "[C") (List.mem_of_getElem? (i := 2) rfl)) (fun _ h9 => h9) (v := .ref (xad G 19)) rfl dX2_byteAt_26 ?_
        refine lv_iload_n hx hb dX2_byteAt_29 rfl (lv_at hl 1 rfl) ?_
        have i_4 := h.1
        have h := h.2
        refine x_cald hx hb hG hw xb19 i_4 dX2_byteAt_30 ?_
        exact x_iret hx hb hr hlocks hG hw ⟨h, rfl, rfl⟩ dX2_byteAt_31
      · have h := h.2 c_3
        refine lv_iconst (v := (-1)) hx hb dX2_byteAt_21 (by decide) ?_
        refine lv_goto (tgt := 31) hx hb dX2_byteAt_22 (by decide) ?_
        exact x_iret hx hb hr hlocks hG hw ⟨h, rfl, rfl⟩ dX2_byteAt_31
theorem c_X2_byteAt {l : Launch} {G : xGt} {x1 : Int32} {A : xM} {L : xL} {post : Int32 → Prop} (h : v_X2_byteAt x1 A L post) : Met l yX2_byteAt wsX2_byteAt rX2_byteAt (va_Pc [.ref (xad G 18), .int x1] (xPre G A L)) (xQi G (xpi A L post)) 0 0 (xAf G) :=
  x_met RX2 rfl (by decide) rfl (Nat.le_of_ble_eq_true rfl) (fun p e s m below meth c ls C0 hw hl => t_X2_byteAt_0 C0 hw hl h)
end MECH
