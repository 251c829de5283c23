abbrev rX5_isOutside : Room := { frames := 0, cells := 0, slots := 0, locals := 0 }
def v_X5_isOutside (x0 : Int32) (x1 : Int32) (x2 : Int32) (post : Int32 → Prop) : Prop := (x0 < x1 → (post (1 : Int32))) ∧ (¬ x0 < x1 → ((x0 ≤ x2 → (post (0 : Int32))) ∧ (¬ x0 ≤ x2 → (post (1 : Int32)))))
section MECH
variable {p : Program} {l : Launch} {e : Env} {s : State} {m : MethodId} {args : Array Value} {below : List Frame} {meth : Method} {c : Code} {G : xGt}
set_option maxHeartbeats 4000000 in
set_option maxRecDepth 100000 in
theorem t_X5_isOutside_0 (C0 : xC p s m args meth c G cX5_isOutside (some .boolean) wsX5_isOutside RX5 3) {post : Int32 → Prop} {x0 : Int32} {x1 : Int32} {x2 : Int32} {A : xM} {L : xL} {H : Heap} {locs : List Loc} {ls : Array Slot} (hw : xW G s.heap A L H locs) (hl : lv_has ls 3 [(0, .int x0), (1, .int x1), (2, .int x2)]) (h : v_X5_isOutside x0 x1 x2 post) : W p l e rX5_isOutside s m args below meth c H locs 0 0 (MQ below (xQi G (xpi A L post)) args s 0 0 (xAf G)) (F0 m 0 ls []) := by
  obtain ⟨hx, hb, hr, hts, hown, hml, hlocks, hG⟩ := id C0
  unfold v_X5_isOutside at h
  refine lv_iload_n hx hb dX5_isOutside_0 rfl (lv_at hl 0 rfl) ?_
  refine lv_iload_n hx hb dX5_isOutside_1 rfl (lv_at hl 1 rfl) ?_
  refine lv_icmp_lt (tgt := 10) hx hb dX5_isOutside_2 (by decide) (fun c_1 => ?_) (fun c_1 => ?_)
  · have h := h.1 c_1
    refine lv_iconst (v := 1) hx hb dX5_isOutside_10 (by decide) ?_
    refine lv_goto (tgt := 15) hx hb dX5_isOutside_11 (by decide) ?_
    exact x_zret hx hb hr hlocks hG hw (by decide) ⟨h, rfl, rfl⟩ dX5_isOutside_15
  · have h := h.2 c_1
    refine lv_iload_n hx hb dX5_isOutside_5 rfl (lv_at hl 0 rfl) ?_
    refine lv_iload_n hx hb dX5_isOutside_6 rfl (lv_at hl 2 rfl) ?_
    refine lv_icmp_le (tgt := 14) hx hb dX5_isOutside_7 (by decide) (fun c_2 => ?_) (fun c_2 => ?_)
    · have h := h.1 c_2
      refine lv_iconst (v := 0) hx hb dX5_isOutside_14 (by decide) ?_
      exact x_zret hx hb hr hlocks hG hw (by decide) ⟨h, rfl, rfl⟩ dX5_isOutside_15
    · have h := h.2 c_2
      refine lv_iconst (v := 1) hx hb dX5_isOutside_10 (by decide) ?_
      refine lv_goto (tgt := 15) hx hb dX5_isOutside_11 (by decide) ?_
      exact x_zret hx hb hr hlocks hG hw (by decide) ⟨h, rfl, rfl⟩ dX5_isOutside_15
theorem c_X5_isOutside {l : Launch} {G : xGt} {x0 : Int32} {x1 : Int32} {x2 : Int32} {A : xM} {L : xL} {post : Int32 → Prop} (h : v_X5_isOutside x0 x1 x2 post) : Met l yX5_isOutside wsX5_isOutside rX5_isOutside (va_Pc [.int x0, .int x1, .int x2] (xPre G A L)) (xQi G (xpi A L post)) 0 0 (xAf G) :=
  x_met RX5 rfl (by decide) rfl (Nat.le_of_ble_eq_true rfl) (fun p e s m below meth c ls C0 hw hl => t_X5_isOutside_0 C0 hw hl h)
end MECH
abbrev rJ6_bitCount_0f7a4 : Room := { frames := 0, cells := 0, slots := 0, locals := 0 }
def v_J6_bitCount_0f7a4 (x0 : Int32) (post : Int32 → Prop) : Prop := ∀ x0_1 : Int32, x0_1 = (x0 - ((x0.toUInt32 >>> ((1 : Int32).toUInt32 &&& Int32.toUInt32 31)).toInt32 &&& (1431655765 : Int32))) → (∀ x0_2 : Int32, x0_2 = ((x0_1 &&& (858993459 : Int32)) + ((x0_1.toUInt32 >>> ((2 : Int32).toUInt32 &&& Int32.toUInt32 31)).toInt32 &&& (858993459 : Int32))) → (∀ x0_3 : Int32, x0_3 = ((x0_2 + (x0_2.toUInt32 >>> ((4 : Int32).toUInt32 &&& Int32.toUInt32 31)).toInt32) &&& (252645135 : Int32)) → (∀ x0_4 : Int32, x0_4 = (x0_3 + (x0_3.toUInt32 >>> ((8 : Int32).toUInt32 &&& Int32.toUInt32 31)).toInt32) → (∀ x0_5 : Int32, x0_5 = (x0_4 + (x0_4.toUInt32 >>> ((16 : Int32).toUInt32 &&& Int32.toUInt32 31)).toInt32) → (post (x0_5 &&& (63 : Int32)))))))
section MECH
variable {p : Program} {l : Launch} {e : Env} {s : State} {m : MethodId} {args : Array Value} {below : List Frame} {meth : Method} {c : Code} {G : xGt}
set_option maxHeartbeats 4000000 in
set_option maxRecDepth 100000 in
theorem t_J6_bitCount_0f7a4_0 (C0 : xC p s m args meth c G cJ6_bitCount_0f7a4 (some .int) wsJ6_bitCount_0f7a4 RJ6 1) {post : Int32 → Prop} {x0 : Int32} {A : xM} {L : xL} {H : Heap} {locs : List Loc} {ls : Array Slot} (hw : xW G s.heap A L H locs) (hl : lv_has ls 1 [(0, .int x0)]) (h : v_J6_bitCount_0f7a4 x0 post) : W p l e rJ6_bitCount_0f7a4 s m args below meth c H locs 0 0 (MQ below (xQi G (xpi A L post)) args s 0 0 (xAf G)) (F0 m 0 ls []) := by
  obtain ⟨hx, hb, hr, hts, hown, hml, hlocks, hG⟩ := id C0
  unfold v_J6_bitCount_0f7a4 at h
  refine lv_iload_n hx hb dJ6_bitCount_0f7a4_0 rfl (lv_at hl 0 rfl) ?_
  refine lv_iload_n hx hb dJ6_bitCount_0f7a4_1 rfl (lv_at hl 0 rfl) ?_
  refine lv_iconst (v := 1) hx hb dJ6_bitCount_0f7a4_2 (by decide) ?_
  refine lv_iushr hx hb dJ6_bitCount_0f7a4_3 rfl ?_
  refine lv_ldcw (v := (1431655765 : Int32)) hx hb hown (hts _ (List.mem_of_getElem? (i := 1) rfl)) dJ6_bitCount_0f7a4_4 ?_
  refine lv_iand hx hb dJ6_bitCount_0f7a4_7 ?_
  refine lv_isub hx hb dJ6_bitCount_0f7a4_8 ?_
  refine lv_topi (fun x0_1 ex0_1 => ?_)
  have h := h x0_1 ex0_1
  refine lv_istore_n (lv' := [(0, .int x0_1)]) hx hb dJ6_bitCount_0f7a4_9 rfl hl (by decide) rfl (fun ls hl => ?_)
  refine lv_iload_n hx hb dJ6_bitCount_0f7a4_10 rfl (lv_at hl 0 rfl) ?_
  refine lv_ldcw (v := (858993459 : Int32)) hx hb hown (hts _ (List.mem_of_getElem? (i := 2) rfl)) dJ6_bitCount_0f7a4_11 ?_
  refine lv_iand hx hb dJ6_bitCount_0f7a4_14 ?_
  refine lv_iload_n hx hb dJ6_bitCount_0f7a4_15 rfl (lv_at hl 0 rfl) ?_
  refine lv_iconst (v := 2) hx hb dJ6_bitCount_0f7a4_16 (by decide) ?_
  refine lv_iushr hx hb dJ6_bitCount_0f7a4_17 rfl ?_
  refine lv_ldcw (v := (858993459 : Int32)) hx hb hown (hts _ (List.mem_of_getElem? (i := 2) rfl)) dJ6_bitCount_0f7a4_18 ?_
  refine lv_iand hx hb dJ6_bitCount_0f7a4_21 ?_
  refine lv_iadd hx hb dJ6_bitCount_0f7a4_22 ?_
  refine lv_topi (fun x0_2 ex0_2 => ?_)
  have h := h x0_2 ex0_2
  refine lv_istore_n (lv' := [(0, .int x0_2)]) hx hb dJ6_bitCount_0f7a4_23 rfl hl (by decide) rfl (fun ls hl => ?_)
  refine lv_iload_n hx hb dJ6_bitCount_0f7a4_24 rfl (lv_at hl 0 rfl) ?_
  refine lv_iload_n hx hb dJ6_bitCount_0f7a4_25 rfl (lv_at hl 0 rfl) ?_
  refine lv_iconst (v := 4) hx hb dJ6_bitCount_0f7a4_26 (by decide) ?_
  refine lv_iushr hx hb dJ6_bitCount_0f7a4_27 rfl ?_
  refine lv_iadd hx hb dJ6_bitCount_0f7a4_28 ?_
  refine lv_ldcw (v := (252645135 : Int32)) hx hb hown (hts _ (List.mem_of_getElem? (i := 3) rfl)) dJ6_bitCount_0f7a4_29 ?_
  refine lv_iand hx hb dJ6_bitCount_0f7a4_32 ?_
  refine lv_topi (fun x0_3 ex0_3 => ?_)
  have h := h x0_3 ex0_3
  refine lv_istore_n (lv' := [(0, .int x0_3)]) hx hb dJ6_bitCount_0f7a4_33 rfl hl (by decide) rfl (fun ls hl => ?_)
  refine lv_iload_n hx hb dJ6_bitCount_0f7a4_34 rfl (lv_at hl 0 rfl) ?_
  refine lv_iload_n hx hb dJ6_bitCount_0f7a4_35 rfl (lv_at hl 0 rfl) ?_
  refine lv_bipush (v := 8) hx hb dJ6_bitCount_0f7a4_36 (by decide) ?_
  refine lv_iushr hx hb dJ6_bitCount_0f7a4_38 rfl ?_
  refine lv_iadd hx hb dJ6_bitCount_0f7a4_39 ?_
  refine lv_topi (fun x0_4 ex0_4 => ?_)
  have h := h x0_4 ex0_4
  refine lv_istore_n (lv' := [(0, .int x0_4)]) hx hb dJ6_bitCount_0f7a4_40 rfl hl (by decide) rfl (fun ls hl => ?_)
  refine lv_iload_n hx hb dJ6_bitCount_0f7a4_41 rfl (lv_at hl 0 rfl) ?_
  refine lv_iload_n hx hb dJ6_bitCount_0f7a4_42 rfl (lv_at hl 0 rfl) ?_
  refine lv_bipush (v := 16) hx hb dJ6_bitCount_0f7a4_43 (by decide) ?_
  refine lv_iushr hx hb dJ6_bitCount_0f7a4_45 rfl ?_
  refine lv_iadd hx hb dJ6_bitCount_0f7a4_46 ?_
  refine lv_topi (fun x0_5 ex0_5 => ?_)
  have h := h x0_5 ex0_5
  refine lv_istore_n (lv' := [(0, .int x0_5)]) hx hb dJ6_bitCount_0f7a4_47 rfl hl (by decide) rfl (fun ls hl => ?_)
  refine lv_iload_n hx hb dJ6_bitCount_0f7a4_48 rfl (lv_at hl 0 rfl) ?_
  refine lv_bipush (v := 63) hx hb dJ6_bitCount_0f7a4_49 (by decide) ?_
  refine lv_iand hx hb dJ6_bitCount_0f7a4_51 ?_
  exact x_iret hx hb hr hlocks hG hw ⟨h, rfl, rfl⟩ dJ6_bitCount_0f7a4_52
theorem c_J6_bitCount_0f7a4 {l : Launch} {G : xGt} {x0 : Int32} {A : xM} {L : xL} {post : Int32 → Prop} (h : v_J6_bitCount_0f7a4 x0 post) : Met l yJ6_bitCount_0f7a4 wsJ6_bitCount_0f7a4 rJ6_bitCount_0f7a4 (va_Pc [.int x0] (xPre G A L)) (xQi G (xpi A L post)) 0 0 (xAf G) :=
  x_met RJ6 rfl (by decide) rfl (Nat.le_of_ble_eq_true rfl) (fun p e s m below meth c ls C0 hw hl => t_J6_bitCount_0f7a4_0 C0 hw hl h)
end MECH
abbrev rX3_allow : Room := { frames := 0, cells := 0, slots := 0, locals := 0 }
theorem inX3_allow_X3 : ∀ w ∈ wsX30, w ∈ wsX3_allow := fun w h => List.mem_cons_of_mem _ (List.mem_append_right _ h)
def v_X3_allow (x1 : Int32) (A : xM) (L : xL) (post : Int32 → Prop) : Prop := (((A 1 0) &&& ((1 : Int32) <<< (x1 &&& 31))) = 0 → (post (0 : Int32))) ∧ (¬ ((A 1 0) &&& ((1 : Int32) <<< (x1 &&& 31))) = 0 → (post (1 : Int32)))
section MECH
variable {p : Program} {l : Launch} {e : Env} {s : State} {m : MethodId} {args : Array Value} {below : List Frame} {meth : Method} {c : Code} {G : xGt}
set_option maxHeartbeats 4000000 in
set_option maxRecDepth 100000 in
theorem t_X3_allow_0 (C0 : xC p s m args meth c G cX3_allow (some .boolean) wsX3_allow RX3 2) {post : Int32 → Prop} {x1 : Int32} {A : xM} {L : xL} {H : Heap} {locs : List Loc} {ls : Array Slot} (hw : xW G s.heap A L H locs) (hl : lv_has ls 2 [(0, .ref (xad G 1)), (1, .int x1)]) (h : v_X3_allow x1 A L post) : W p l e rX3_allow s m args below meth c H locs 0 0 (MQ below (xQi G (xpi A L post)) args s 0 0 (xAf G)) (F0 m 0 ls []) := by
  obtain ⟨hx, hb, hr, hts, hown, hml, hlocks, hG⟩ := id C0
  unfold v_X3_allow at h
  refine lv_aload_n hx hb dX3_allow_0 rfl (lv_at hl 0 rfl) ?_
  refine x_get (C := RX3) (T := TX3) (N := 2) hx hb hts inX3_allow_X3 hown hG hw xO1 rfl 0 (by decide) (hts (.fieldLink RX3 9 "SixNumbers$Rules" "acts" "I") (List.mem_of_getElem? (i := 1) rfl)) (fun _ h9 => h9) (v := .int (A 1 0)) rfl dX3_allow_1 ?_
  refine lv_iconst (v := 1) hx hb dX3_allow_4 (by decide) ?_
  refine lv_iload_n hx hb dX3_allow_5 rfl (lv_at hl 1 rfl) ?_
  refine lv_ishl hx hb dX3_allow_6 ?_
  refine lv_iand hx hb dX3_allow_7 ?_
  refine lv_if_eq (tgt := 15) hx hb dX3_allow_8 (by decide) (fun c_1 => ?_) (fun c_1 => ?_)
  · have h := h.1 c_1
    refine lv_iconst (v := 0) hx hb dX3_allow_15 (by decide) ?_
    exact x_zret hx hb hr hlocks hG hw (by decide) ⟨h, rfl, rfl⟩ dX3_allow_16
  · have h := h.2 c_1
    refine lv_iconst (v := 1) hx hb dX3_allow_11 (by decide) ?_
    refine lv_goto (tgt := 16) hx hb dX3_allow_12 (by decide) ?_
    exact x_zret hx hb hr hlocks hG hw (by decide) ⟨h, rfl, rfl⟩ dX3_allow_16
theorem c_X3_allow {l : Launch} {G : xGt} {x1 : Int32} {A : xM} {L : xL} {post : Int32 → Prop} (h : v_X3_allow x1 A L post) : Met l yX3_allow wsX3_allow rX3_allow (va_Pc [.ref (xad G 1), .int x1] (xPre G A L)) (xQi G (xpi A L post)) 0 0 (xAf G) :=
  x_met RX3 rfl (by decide) rfl (Nat.le_of_ble_eq_true rfl) (fun p e s m below meth c ls C0 hw hl => t_X3_allow_0 C0 hw hl h)
end MECH
abbrev rX5_rightNumber : Room := { frames := 0, cells := 0, slots := 0, locals := 0 }
def v_X5_rightNumber (x0 : Int32) (x1 : Int32) (x2 : Int32) (post : Int32 → Prop) : Prop := (x0.toInt < 0 ∨ 2 < x0.toInt → ((x2 ≤ 0 → (post (-1 : Int32))) ∧ (¬ x2 ≤ 0 → (¬ x2 = 0 ∧ ((¬ (x1 - x1 / x2 * x2) = 0 → (post (-1 : Int32))) ∧ ((x1 - x1 / x2 * x2) = 0 → (¬ x2 = 0 ∧ (post (x1 / x2))))))))) ∧ (x0 = (0 : Int32) → (post (x2 - x1))) ∧ (x0 = (1 : Int32) → (post (x1 - x2))) ∧ (x0 = (2 : Int32) → ((x1 ≤ 0 → (post (-1 : Int32))) ∧ (¬ x1 ≤ 0 → (¬ x1 = 0 ∧ ((¬ (x2 - x2 / x1 * x1) = 0 → (post (-1 : Int32))) ∧ ((x2 - x2 / x1 * x1) = 0 → (¬ x1 = 0 ∧ (post (x2 / x1)))))))))
section MECH
variable {p : Program} {l : Launch} {e : Env} {s : State} {m : MethodId} {args : Array Value} {below : List Frame} {meth : Method} {c : Code} {G : xGt}
set_option maxHeartbeats 4000000 in
set_option maxRecDepth 100000 in
theorem t_X5_rightNumber_0 (C0 : xC p s m args meth c G cX5_rightNumber (some .int) wsX5_rightNumber RX5 3) {post : Int32 → Prop} {x0 : Int32} {x1 : Int32} {x2 : Int32} {A : xM} {L : xL} {H : Heap} {locs : List Loc} {ls : Array Slot} (hw : xW G s.heap A L H locs) (hl : lv_has ls 3 [(0, .int x0), (1, .int x1), (2, .int x2)]) (h : v_X5_rightNumber x0 x1 x2 post) : W p l e rX5_rightNumber s m args below meth c H locs 0 0 (MQ below (xQi G (xpi A L post)) args s 0 0 (xAf G)) (F0 m 0 ls []) := by
  obtain ⟨hx, hb, hr, hts, hown, hml, hlocks, hG⟩ := id C0
  unfold v_X5_rightNumber at h
  refine lv_iload_n hx hb dX5_rightNumber_0 rfl (lv_at hl 0 rfl) ?_
  by_cases c_1 : x0.toInt < 0 ∨ 2 < x0.toInt
  · have h := h.1 c_1
    refine lv_tableOut (tgt := 54) hx hb dX5_rightNumber_1 c_1 (by decide) ?_
    refine lv_iload_n hx hb dX5_rightNumber_54 rfl (lv_at hl 2 rfl) ?_
    refine lv_if_le (tgt := 70) hx hb dX5_rightNumber_55 (by decide) (fun c_2 => ?_) (fun c_2 => ?_)
    · have h := h.1 c_2
      refine lv_iconst (v := (-1)) hx hb dX5_rightNumber_70 (by decide) ?_
      exact x_iret hx hb hr hlocks hG hw ⟨h, rfl, rfl⟩ dX5_rightNumber_71
    · have h := h.2 c_2
      refine lv_iload_n hx hb dX5_rightNumber_58 rfl (lv_at hl 1 rfl) ?_
      refine lv_iload_n hx hb dX5_rightNumber_59 rfl (lv_at hl 2 rfl) ?_
      have z_3 := h.1
      have h := h.2
      refine lv_irem hx hb dX5_rightNumber_60 z_3 ?_
      refine lv_if_ne (tgt := 70) hx hb dX5_rightNumber_61 (by decide) (fun c_4 => ?_) (fun c_4 => ?_)
      · have h := h.1 c_4
        refine lv_iconst (v := (-1)) hx hb dX5_rightNumber_70 (by decide) ?_
        exact x_iret hx hb hr hlocks hG hw ⟨h, rfl, rfl⟩ dX5_rightNumber_71
      · have h := h.2 c_4
        refine lv_iload_n hx hb dX5_rightNumber_64 rfl (lv_at hl 1 rfl) ?_
        refine lv_iload_n hx hb dX5_rightNumber_65 rfl (lv_at hl 2 rfl) ?_
        have z_5 := h.1
        have h := h.2
        refine lv_idiv hx hb dX5_rightNumber_66 z_5 ?_
        refine lv_goto (tgt := 71) hx hb dX5_rightNumber_67 (by decide) ?_
        exact x_iret hx hb hr hlocks hG hw ⟨h, rfl, rfl⟩ dX5_rightNumber_71
  · rcases (show x0.toInt = 0 ∨ x0.toInt = 1 ∨ x0.toInt = 2 by omega) with c8 | c8 | c8
    · have c9 : x0 = (0 : Int32) := Int32.toInt_inj.mp (c8.trans (by decide))
      have h := h.2.1 c9
      refine lv_tableIn (tgt := 28) hx hb dX5_rightNumber_1 (by omega) (by omega) (by rw [c8]; rfl) (by decide) ?_
      refine lv_iload_n hx hb dX5_rightNumber_28 rfl (lv_at hl 2 rfl) ?_
      refine lv_iload_n hx hb dX5_rightNumber_29 rfl (lv_at hl 1 rfl) ?_
      refine lv_isub hx hb dX5_rightNumber_30 ?_
      exact x_iret hx hb hr hlocks hG hw ⟨h, rfl, rfl⟩ dX5_rightNumber_31
    · have c9 : x0 = (1 : Int32) := Int32.toInt_inj.mp (c8.trans (by decide))
      have h := h.2.2.1 c9
      refine lv_tableIn (tgt := 32) hx hb dX5_rightNumber_1 (by omega) (by omega) (by rw [c8]; rfl) (by decide) ?_
      refine lv_iload_n hx hb dX5_rightNumber_32 rfl (lv_at hl 1 rfl) ?_
      refine lv_iload_n hx hb dX5_rightNumber_33 rfl (lv_at hl 2 rfl) ?_
      refine lv_isub hx hb dX5_rightNumber_34 ?_
      exact x_iret hx hb hr hlocks hG hw ⟨h, rfl, rfl⟩ dX5_rightNumber_35
    · have c9 : x0 = (2 : Int32) := Int32.toInt_inj.mp (c8.trans (by decide))
      have h := h.2.2.2 c9
      refine lv_tableIn (tgt := 36) hx hb dX5_rightNumber_1 (by omega) (by omega) (by rw [c8]; rfl) (by decide) ?_
      refine lv_iload_n hx hb dX5_rightNumber_36 rfl (lv_at hl 1 rfl) ?_
      refine lv_if_le (tgt := 52) hx hb dX5_rightNumber_37 (by decide) (fun c_6 => ?_) (fun c_6 => ?_)
      · have h := h.1 c_6
        refine lv_iconst (v := (-1)) hx hb dX5_rightNumber_52 (by decide) ?_
        exact x_iret hx hb hr hlocks hG hw ⟨h, rfl, rfl⟩ dX5_rightNumber_53
      · have h := h.2 c_6
        refine lv_iload_n hx hb dX5_rightNumber_40 rfl (lv_at hl 2 rfl) ?_
        refine lv_iload_n hx hb dX5_rightNumber_41 rfl (lv_at hl 1 rfl) ?_
        have z_7 := h.1
        have h := h.2
        refine lv_irem hx hb dX5_rightNumber_42 z_7 ?_
        refine lv_if_ne (tgt := 52) hx hb dX5_rightNumber_43 (by decide) (fun c_8 => ?_) (fun c_8 => ?_)
        · have h := h.1 c_8
          refine lv_iconst (v := (-1)) hx hb dX5_rightNumber_52 (by decide) ?_
          exact x_iret hx hb hr hlocks hG hw ⟨h, rfl, rfl⟩ dX5_rightNumber_53
        · have h := h.2 c_8
          refine lv_iload_n hx hb dX5_rightNumber_46 rfl (lv_at hl 2 rfl) ?_
          refine lv_iload_n hx hb dX5_rightNumber_47 rfl (lv_at hl 1 rfl) ?_
          have z_9 := h.1
          have h := h.2
          refine lv_idiv hx hb dX5_rightNumber_48 z_9 ?_
          refine lv_goto (tgt := 53) hx hb dX5_rightNumber_49 (by decide) ?_
          exact x_iret hx hb hr hlocks hG hw ⟨h, rfl, rfl⟩ dX5_rightNumber_53
theorem c_X5_rightNumber {l : Launch} {G : xGt} {x0 : Int32} {x1 : Int32} {x2 : Int32} {A : xM} {L : xL} {post : Int32 → Prop} (h : v_X5_rightNumber x0 x1 x2 post) : Met l yX5_rightNumber wsX5_rightNumber rX5_rightNumber (va_Pc [.int x0, .int x1, .int x2] (xPre G A L)) (xQi G (xpi A L post)) 0 0 (xAf G) :=
  x_met RX5 rfl (by decide) rfl (Nat.le_of_ble_eq_true rfl) (fun p e s m below meth c ls C0 hw hl => t_X5_rightNumber_0 C0 hw hl h)
end MECH
abbrev rX5_isInSpan : Room := { frames := 0, cells := 0, slots := 0, locals := 0 }
def v_X5_isInSpan (x0 : Int32) (x1 : Int32) (post : Int32 → Prop) : Prop := ((x0 &&& ((1 : Int32) <<< (((12 : Int32) - x1) &&& 31))) = 0 → (post (0 : Int32))) ∧ (¬ (x0 &&& ((1 : Int32) <<< (((12 : Int32) - x1) &&& 31))) = 0 → (post (1 : Int32)))
section MECH
variable {p : Program} {l : Launch} {e : Env} {s : State} {m : MethodId} {args : Array Value} {below : List Frame} {meth : Method} {c : Code} {G : xGt}
set_option maxHeartbeats 4000000 in
set_option maxRecDepth 100000 in
theorem t_X5_isInSpan_0 (C0 : xC p s m args meth c G cX5_isInSpan (some .boolean) wsX5_isInSpan RX5 2) {post : Int32 → Prop} {x0 : Int32} {x1 : Int32} {A : xM} {L : xL} {H : Heap} {locs : List Loc} {ls : Array Slot} (hw : xW G s.heap A L H locs) (hl : lv_has ls 2 [(0, .int x0), (1, .int x1)]) (h : v_X5_isInSpan x0 x1 post) : W p l e rX5_isInSpan s m args below meth c H locs 0 0 (MQ below (xQi G (xpi A L post)) args s 0 0 (xAf G)) (F0 m 0 ls []) := by
  obtain ⟨hx, hb, hr, hts, hown, hml, hlocks, hG⟩ := id C0
  unfold v_X5_isInSpan at h
  refine lv_iload_n hx hb dX5_isInSpan_0 rfl (lv_at hl 0 rfl) ?_
  refine lv_iconst (v := 1) hx hb dX5_isInSpan_1 (by decide) ?_
  refine lv_bipush (v := 12) hx hb dX5_isInSpan_2 (by decide) ?_
  refine lv_iload_n hx hb dX5_isInSpan_4 rfl (lv_at hl 1 rfl) ?_
  refine lv_isub hx hb dX5_isInSpan_5 ?_
  refine lv_ishl hx hb dX5_isInSpan_6 ?_
  refine lv_iand hx hb dX5_isInSpan_7 ?_
  refine lv_if_eq (tgt := 15) hx hb dX5_isInSpan_8 (by decide) (fun c_1 => ?_) (fun c_1 => ?_)
  · have h := h.1 c_1
    refine lv_iconst (v := 0) hx hb dX5_isInSpan_15 (by decide) ?_
    exact x_zret hx hb hr hlocks hG hw (by decide) ⟨h, rfl, rfl⟩ dX5_isInSpan_16
  · have h := h.2 c_1
    refine lv_iconst (v := 1) hx hb dX5_isInSpan_11 (by decide) ?_
    refine lv_goto (tgt := 16) hx hb dX5_isInSpan_12 (by decide) ?_
    exact x_zret hx hb hr hlocks hG hw (by decide) ⟨h, rfl, rfl⟩ dX5_isInSpan_16
theorem c_X5_isInSpan {l : Launch} {G : xGt} {x0 : Int32} {x1 : Int32} {A : xM} {L : xL} {post : Int32 → Prop} (h : v_X5_isInSpan x0 x1 post) : Met l yX5_isInSpan wsX5_isInSpan rX5_isInSpan (va_Pc [.int x0, .int x1] (xPre G A L)) (xQi G (xpi A L post)) 0 0 (xAf G) :=
  x_met RX5 rfl (by decide) rfl (Nat.le_of_ble_eq_true rfl) (fun p e s m below meth c ls C0 hw hl => t_X5_isInSpan_0 C0 hw hl h)
end MECH
abbrev rX1_knows : Room := { frames := 0, cells := 0, slots := 0, locals := 0 }
theorem inX1_knows_X1 : ∀ w ∈ wsX10, w ∈ wsX1_knows := fun w h => List.mem_cons_of_mem _ (List.mem_append_right _ h)
def v_X1_knows (q : Nat) (x1 : Int32) (A : xM) (L : xL) (post : Int32 → Prop) : Prop := (x1 < 0 → (post (0 : Int32))) ∧ (¬ x1 < 0 → ((((1 : Int32) <<< ((A (2 + 6 * q) 6) &&& 31)) ≤ x1 → (post (0 : Int32))) ∧ (¬ ((1 : Int32) <<< ((A (2 + 6 * q) 6) &&& 31)) ≤ x1 → (post (1 : Int32)))))
section MECH
variable {p : Program} {l : Launch} {e : Env} {s : State} {m : MethodId} {args : Array Value} {below : List Frame} {meth : Method} {c : Code} {G : xGt}
set_option maxHeartbeats 4000000 in
set_option maxRecDepth 100000 in
theorem t_X1_knows_0 (C0 : xC p s m args meth c G cX1_knows (some .boolean) wsX1_knows RX1 2) {q : Nat} (hq : q < 2) {post : Int32 → Prop} {x1 : Int32} {A : xM} {L : xL} {H : Heap} {locs : List Loc} {ls : Array Slot} (hw : xW G s.heap A L H locs) (hl : lv_has ls 2 [(0, .ref (xad G (2 + 6 * q))), (1, .int x1)]) (h : v_X1_knows q x1 A L post) : W p l e rX1_knows s m args below meth c H locs 0 0 (MQ below (xQi G (xpi A L post)) args s 0 0 (xAf G)) (F0 m 0 ls []) := by
  obtain ⟨hx, hb, hr, hts, hown, hml, hlocks, hG⟩ := id C0
  unfold v_X1_knows at h
  refine lv_iload_n hx hb dX1_knows_0 rfl (lv_at hl 1 rfl) ?_
  refine lv_if_lt (tgt := 18) hx hb dX1_knows_1 (by decide) (fun c_1 => ?_) (fun c_1 => ?_)
  · have h := h.1 c_1
    refine lv_iconst (v := 0) hx hb dX1_knows_18 (by decide) ?_
    exact x_zret hx hb hr hlocks hG hw (by decide) ⟨h, rfl, rfl⟩ dX1_knows_19
  · have h := h.2 c_1
    refine lv_iload_n hx hb dX1_knows_4 rfl (lv_at hl 1 rfl) ?_
    refine lv_iconst (v := 1) hx hb dX1_knows_5 (by decide) ?_
    refine lv_aload_n hx hb dX1_knows_6 rfl (lv_at hl 0 rfl) ?_
    refine x_get (C := RX1) (T := TX1) (N := 8) hx hb hts inX1_knows_X1 hown hG hw (xOh hq) rfl 6 (by decide) (hts (.fieldLink RX1 9 "SixNumbers$Heap" "size" "I") (List.mem_of_getElem? (i := 1) rfl)) (fun _ h9 => h9) (v := .int (A (2 + 6 * q) 6)) (xf_v6 hq) dX1_knows_7 ?_
    refine lv_ishl hx hb dX1_knows_10 ?_
    refine lv_icmp_ge (tgt := 18) hx hb dX1_knows_11 (by decide) (fun c_2 => ?_) (fun c_2 => ?_)
    · have h := h.1 c_2
      refine lv_iconst (v := 0) hx hb dX1_knows_18 (by decide) ?_
      exact x_zret hx hb hr hlocks hG hw (by decide) ⟨h, rfl, rfl⟩ dX1_knows_19
    · have h := h.2 c_2
      refine lv_iconst (v := 1) hx hb dX1_knows_14 (by decide) ?_
      refine lv_goto (tgt := 19) hx hb dX1_knows_15 (by decide) ?_
      exact x_zret hx hb hr hlocks hG hw (by decide) ⟨h, rfl, rfl⟩ dX1_knows_19
theorem c_X1_knows {l : Launch} {G : xGt} {q : Nat} (hq : q < 2) {x1 : Int32} {A : xM} {L : xL} {post : Int32 → Prop} (h : v_X1_knows q x1 A L post) : Met l yX1_knows wsX1_knows rX1_knows (va_Pc [.ref (xad G (2 + 6 * q)), .int x1] (xPre G A L)) (xQi G (xpi A L post)) 0 0 (xAf G) :=
  x_met RX1 rfl (by decide) rfl (Nat.le_of_ble_eq_true rfl) (fun p e s m below meth c ls C0 hw hl => t_X1_knows_0 C0 hq hw hl h)
end MECH
abbrev rX1_reaches : Room := { frames := 0, cells := 0, slots := 0, locals := 0 }
theorem inX1_reaches_X1 : ∀ w ∈ wsX10, w ∈ wsX1_reaches := fun w h => List.mem_cons_of_mem _ (List.mem_append_right _ h)
def v_X1_reaches (q : Nat) (x1 : Int32) (A : xM) (L : xL) (post : Int32 → Prop) : Prop := (x1 < (1 : Int32) → (post (0 : Int32))) ∧ (¬ x1 < (1 : Int32) → (((3000 : Int32) < x1 → (post (0 : Int32))) ∧ (¬ (3000 : Int32) < x1 → (vp_in x1 3001 ∧ (((A (7 + 6 * q) x1.toNatClampNeg) ≤ 0 → (post (0 : Int32))) ∧ (¬ (A (7 + 6 * q) x1.toNatClampNeg) ≤ 0 → (post (1 : Int32))))))))
section MECH
variable {p : Program} {l : Launch} {e : Env} {s : State} {m : MethodId} {args : Array Value} {below : List Frame} {meth : Method} {c : Code} {G : xGt}
set_option maxHeartbeats 4000000 in
set_option maxRecDepth 100000 in
theorem t_X1_reaches_0 (C0 : xC p s m args meth c G cX1_reaches (some .boolean) wsX1_reaches RX1 2) {q : Nat} (hq : q < 2) {post : Int32 → Prop} {x1 : Int32} {A : xM} {L : xL} {H : Heap} {locs : List Loc} {ls : Array Slot} (hw : xW G s.heap A L H locs) (hl : lv_has ls 2 [(0, .ref (xad G (2 + 6 * q))), (1, .int x1)]) (h : v_X1_reaches q x1 A L post) : W p l e rX1_reaches s m args below meth c H locs 0 0 (MQ below (xQi G (xpi A L post)) args s 0 0 (xAf G)) (F0 m 0 ls []) := by
  obtain ⟨hx, hb, hr, hts, hown, hml, hlocks, hG⟩ := id C0
  unfold v_X1_reaches at h
  refine lv_iload_n hx hb dX1_reaches_0 rfl (lv_at hl 1 rfl) ?_
  refine lv_iconst (v := 1) hx hb dX1_reaches_1 (by decide) ?_
  refine lv_icmp_lt (tgt := 25) hx hb dX1_reaches_2 (by decide) (fun c_1 => ?_) (fun c_1 => ?_)
  · have h := h.1 c_1
    refine lv_iconst (v := 0) hx hb dX1_reaches_25 (by decide) ?_
    exact x_zret hx hb hr hlocks hG hw (by decide) ⟨h, rfl, rfl⟩ dX1_reaches_26
  · have h := h.2 c_1
    refine lv_iload_n hx hb dX1_reaches_5 rfl (lv_at hl 1 rfl) ?_
    refine lv_sipush (v := 3000) hx hb dX1_reaches_6 (by decide) ?_
    refine lv_icmp_gt (tgt := 25) hx hb dX1_reaches_9 (by decide) (fun c_2 => ?_) (fun c_2 => ?_)
    · have h := h.1 c_2
      refine lv_iconst (v := 0) hx hb dX1_reaches_25 (by decide) ?_
      exact x_zret hx hb hr hlocks hG hw (by decide) ⟨h, rfl, rfl⟩ dX1_reaches_26
    · have h := h.2 c_2
      refine lv_aload_n hx hb dX1_reaches_12 rfl (lv_at hl 0 rfl) ?_
      refine x_get (C := RX1) (T := TX1) (N := 8) hx hb hts inX1_reaches_X1 hown hG hw (xOh hq) rfl 5 (by decide) (hts (.fieldLink RX1 39 "SixNumbers$Heap" "holders" "[I") (List.mem_of_getElem? (i := 1) rfl)) (fun _ h9 => h9) (v := .ref (xad G (7 + 6 * q))) (xf_h5 hq) dX1_reaches_13 ?_
      refine lv_iload_n hx hb dX1_reaches_16 rfl (lv_at hl 1 rfl) ?_
      have i_3 := h.1
      have h := h.2
      refine x_iald hx hb hG hw (xhH hq) i_3 dX1_reaches_17 ?_
      refine lv_if_le (tgt := 25) hx hb dX1_reaches_18 (by decide) (fun c_4 => ?_) (fun c_4 => ?_)
      · have h := h.1 c_4
        refine lv_iconst (v := 0) hx hb dX1_reaches_25 (by decide) ?_
        exact x_zret hx hb hr hlocks hG hw (by decide) ⟨h, rfl, rfl⟩ dX1_reaches_26
      · have h := h.2 c_4
        refine lv_iconst (v := 1) hx hb dX1_reaches_21 (by decide) ?_
        refine lv_goto (tgt := 26) hx hb dX1_reaches_22 (by decide) ?_
        exact x_zret hx hb hr hlocks hG hw (by decide) ⟨h, rfl, rfl⟩ dX1_reaches_26
theorem c_X1_reaches {l : Launch} {G : xGt} {q : Nat} (hq : q < 2) {x1 : Int32} {A : xM} {L : xL} {post : Int32 → Prop} (h : v_X1_reaches q x1 A L post) : Met l yX1_reaches wsX1_reaches rX1_reaches (va_Pc [.ref (xad G (2 + 6 * q)), .int x1] (xPre G A L)) (xQi G (xpi A L post)) 0 0 (xAf G) :=
  x_met RX1 rfl (by decide) rfl (Nat.le_of_ble_eq_true rfl) (fun p e s m below meth c ls C0 hw hl => t_X1_reaches_0 C0 hq hw hl h)
end MECH
abbrev rX1_itemAt : Room := { frames := 0, cells := 0, slots := 0, locals := 0 }
theorem inX1_itemAt_X1 : ∀ w ∈ wsX10, w ∈ wsX1_itemAt := fun w h => List.mem_cons_of_mem _ (List.mem_append_right _ h)
def v_X1_itemAt (q : Nat) (x1 : Int32) (A : xM) (L : xL) (post : Int32 → Prop) : Prop := (x1 < 0 → (post (-1 : Int32))) ∧ (¬ x1 < 0 → (((A (2 + 6 * q) 6) ≤ x1 → (post (-1 : Int32))) ∧ (¬ (A (2 + 6 * q) 6) ≤ x1 → ((x1 < (nI (6 - 2 * q)) → (vp_in x1 (6 - 2 * q) ∧ (post (A (3 + 6 * q) x1.toNatClampNeg)))) ∧ (¬ x1 < (nI (6 - 2 * q)) → (post (-1 : Int32)))))))
section MECH
variable {p : Program} {l : Launch} {e : Env} {s : State} {m : MethodId} {args : Array Value} {below : List Frame} {meth : Method} {c : Code} {G : xGt}
set_option maxHeartbeats 4000000 in
set_option maxRecDepth 100000 in
theorem t_X1_itemAt_0 (C0 : xC p s m args meth c G cX1_itemAt (some .int) wsX1_itemAt RX1 2) {q : Nat} (hq : q < 2) {post : Int32 → Prop} {x1 : Int32} {A : xM} {L : xL} {H : Heap} {locs : List Loc} {ls : Array Slot} (hw : xW G s.heap A L H locs) (hl : lv_has ls 2 [(0, .ref (xad G (2 + 6 * q))), (1, .int x1)]) (h : v_X1_itemAt q x1 A L post) : W p l e rX1_itemAt s m args below meth c H locs 0 0 (MQ below (xQi G (xpi A L post)) args s 0 0 (xAf G)) (F0 m 0 ls []) := by
  obtain ⟨hx, hb, hr, hts, hown, hml, hlocks, hG⟩ := id C0
  unfold v_X1_itemAt at h
  refine lv_iload_n hx hb dX1_itemAt_0 rfl (lv_at hl 1 rfl) ?_
  refine lv_if_lt (tgt := 21) hx hb dX1_itemAt_1 (by decide) (fun c_1 => ?_) (fun c_1 => ?_)
  · have h := h.1 c_1
    refine lv_iconst (v := (-1)) hx hb dX1_itemAt_21 (by decide) ?_
    refine lv_goto (tgt := 31) hx hb dX1_itemAt_22 (by decide) ?_
    exact x_iret hx hb hr hlocks hG hw ⟨h, rfl, rfl⟩ dX1_itemAt_31
  · have h := h.2 c_1
    refine lv_iload_n hx hb dX1_itemAt_4 rfl (lv_at hl 1 rfl) ?_
    refine lv_aload_n hx hb dX1_itemAt_5 rfl (lv_at hl 0 rfl) ?_
    refine x_get (C := RX1) (T := TX1) (N := 8) hx hb hts inX1_itemAt_X1 hown hG hw (xOh hq) rfl 6 (by decide) (hts (.fieldLink RX1 9 "SixNumbers$Heap" "size" "I") (List.mem_of_getElem? (i := 1) rfl)) (fun _ h9 => h9) (v := .int (A (2 + 6 * q) 6)) (xf_v6 hq) dX1_itemAt_6 ?_
    refine lv_icmp_ge (tgt := 21) hx hb dX1_itemAt_9 (by decide) (fun c_2 => ?_) (fun c_2 => ?_)
    · have h := h.1 c_2
      refine lv_iconst (v := (-1)) hx hb dX1_itemAt_21 (by decide) ?_
      refine lv_goto (tgt := 31) hx hb dX1_itemAt_22 (by decide) ?_
      exact x_iret hx hb hr hlocks hG hw ⟨h, rfl, rfl⟩ dX1_itemAt_31
    · have h := h.2 c_2
      refine lv_iload_n hx hb dX1_itemAt_12 rfl (lv_at hl 1 rfl) ?_
      refine lv_aload_n hx hb dX1_itemAt_13 rfl (lv_at hl 0 rfl) ?_
      refine x_get (C := RX1) (T := TX1) (N := 8) hx hb hts inX1_itemAt_X1 hown hG hw (xOh hq) rfl 1 (by decide) (hts (.fieldLink RX1 22 "SixNumbers$Heap" "items" "[I") (List.mem_of_getElem? (i := 2) rfl)) (fun _ h9 => h9) (v := .ref (xad G (3 + 6 * q))) (xf_h1 hq) dX1_itemAt_14 ?_
      refine x_alenI hx hb hG hw (xhI hq) dX1_itemAt_17 ?_
      refine lv_icmp_lt (tgt := 25) hx hb dX1_itemAt_18 (by decide) (fun c_3 => ?_) (fun c_3 => ?_)
      · have h := h.1 c_3
        refine lv_aload_n hx hb dX1_itemAt_25 rfl (lv_at hl 0 rfl) ?_
        refine x_get (C := RX1) (T := TX1) (N := 8) hx hb hts inX1_itemAt_X1 hown hG hw (xOh hq) rfl 1 (by decide) (hts (.fieldLink RX1 22 "SixNumbers$Heap" "items" "[I") (List.mem_of_getElem? (i := 2) rfl)) (fun _ h9 => h9) (v := .ref (xad G (3 + 6 * q))) (xf_h1 hq) dX1_itemAt_26 ?_
        refine lv_iload_n hx hb dX1_itemAt_29 rfl (lv_at hl 1 rfl) ?_
        have i_4 := h.1
        have h := h.2
        refine x_iald hx hb hG hw (xhI hq) i_4 dX1_itemAt_30 ?_
        exact x_iret hx hb hr hlocks hG hw ⟨h, rfl, rfl⟩ dX1_itemAt_31
      · have h := h.2 c_3
        refine lv_iconst (v := (-1)) hx hb dX1_itemAt_21 (by decide) ?_
        refine lv_goto (tgt := 31) hx hb dX1_itemAt_22 (by decide) ?_
        exact x_iret hx hb hr hlocks hG hw ⟨h, rfl, rfl⟩ dX1_itemAt_31
theorem c_X1_itemAt {l : Launch} {G : xGt} {q : Nat} (hq : q < 2) {x1 : Int32} {A : xM} {L : xL} {post : Int32 → Prop} (h : v_X1_itemAt q x1 A L post) : Met l yX1_itemAt wsX1_itemAt rX1_itemAt (va_Pc [.ref (xad G (2 + 6 * q)), .int x1] (xPre G A L)) (xQi G (xpi A L post)) 0 0 (xAf G) :=
  x_met RX1 rfl (by decide) rfl (Nat.le_of_ble_eq_true rfl) (fun p e s m below meth c ls C0 hw hl => t_X1_itemAt_0 C0 hq hw hl h)
end MECH
abbrev rX1_countOf : Room := { frames := 0, cells := 0, slots := 0, locals := 0 }
theorem inX1_countOf_X1 : ∀ w ∈ wsX10, w ∈ wsX1_countOf := fun w h => List.mem_cons_of_mem _ (List.mem_append_right _ h)
def v_X1_countOf (q : Nat) (x1 : Int32) (x2 : Int32) (A : xM) (L : xL) (post : Int64 → Prop) : Prop := (x1 < (1 : Int32) → (post (0 : Int64))) ∧ (¬ x1 < (1 : Int32) → (((nI (64 - 48 * q)) ≤ x1 → (post (0 : Int64))) ∧ (¬ (nI (64 - 48 * q)) ≤ x1 → ((x2 < (1 : Int32) → (post (0 : Int64))) ∧ (¬ x2 < (1 : Int32) → ((x2 ≤ (3000 : Int32) → (vp_in x1 (64 - 48 * q) ∧ (vp_in x2 3001 ∧ (post (L ((36 + 128 * q) + x1.toNatClampNeg) x2.toNatClampNeg))))) ∧ (¬ x2 ≤ (3000 : Int32) → (post (0 : Int64)))))))))
section MECH
variable {p : Program} {l : Launch} {e : Env} {s : State} {m : MethodId} {args : Array Value} {below : List Frame} {meth : Method} {c : Code} {G : xGt}
set_option maxHeartbeats 4000000 in
set_option maxRecDepth 100000 in
theorem t_X1_countOf_0 (C0 : xC p s m args meth c G cX1_countOf (some .long) wsX1_countOf RX1 3) {q : Nat} (hq : q < 2) {post : Int64 → Prop} {x1 : Int32} {x2 : Int32} {A : xM} {L : xL} {H : Heap} {locs : List Loc} {ls : Array Slot} (hw : xW G s.heap A L H locs) (hl : lv_has ls 3 [(0, .ref (xad G (2 + 6 * q))), (1, .int x1), (2, .int x2)]) (h : v_X1_countOf q x1 x2 A L post) : W p l e rX1_countOf s m args below meth c H locs 0 0 (MQ below (xQl G (xpl A L post)) args s 0 0 (xAf G)) (F0 m 0 ls []) := by
  obtain ⟨hx, hb, hr, hts, hown, hml, hlocks, hG⟩ := id C0
  unfold v_X1_countOf at h
  refine lv_iload_n hx hb dX1_countOf_0 rfl (lv_at hl 1 rfl) ?_
  refine lv_iconst (v := 1) hx hb dX1_countOf_1 (by decide) ?_
  refine lv_icmp_lt (tgt := 26) hx hb dX1_countOf_2 (by decide) (fun c_1 => ?_) (fun c_1 => ?_)
  · have h := h.1 c_1
    refine lv_lconst (v := 0) hx hb dX1_countOf_26 (by decide) ?_
    exact x_lret hx hb hr hlocks hG hw ⟨h, rfl, rfl⟩ dX1_countOf_27
  · have h := h.2 c_1
    refine lv_iload_n hx hb dX1_countOf_5 rfl (lv_at hl 1 rfl) ?_
    refine lv_aload_n hx hb dX1_countOf_6 rfl (lv_at hl 0 rfl) ?_
    refine x_get (C := RX1) (T := TX1) (N := 8) hx hb hts inX1_countOf_X1 hown hG hw (xOh hq) rfl 2 (by decide) (hts (.fieldLink RX1 28 "SixNumbers$Heap" "counts" "[[J") (List.mem_of_getElem? (i := 1) rfl)) (fun _ h9 => h9) (v := .ref (xad G (4 + 6 * q))) (xf_h2 hq) dX1_countOf_7 ?_
    refine x_alenR hx hb hG hw (xhC hq) .long rfl dX1_countOf_10 ?_
    refine lv_icmp_ge (tgt := 26) hx hb dX1_countOf_11 (by decide) (fun c_2 => ?_) (fun c_2 => ?_)
    · have h := h.1 c_2
      refine lv_lconst (v := 0) hx hb dX1_countOf_26 (by decide) ?_
      exact x_lret hx hb hr hlocks hG hw ⟨h, rfl, rfl⟩ dX1_countOf_27
    · have h := h.2 c_2
      refine lv_iload_n hx hb dX1_countOf_14 rfl (lv_at hl 2 rfl) ?_
      refine lv_iconst (v := 1) hx hb dX1_countOf_15 (by decide) ?_
      refine lv_icmp_lt (tgt := 26) hx hb dX1_countOf_16 (by decide) (fun c_3 => ?_) (fun c_3 => ?_)
      · have h := h.1 c_3
        refine lv_lconst (v := 0) hx hb dX1_countOf_26 (by decide) ?_
        exact x_lret hx hb hr hlocks hG hw ⟨h, rfl, rfl⟩ dX1_countOf_27
      · have h := h.2 c_3
        refine lv_iload_n hx hb dX1_countOf_19 rfl (lv_at hl 2 rfl) ?_
        refine lv_sipush (v := 3000) hx hb dX1_countOf_20 (by decide) ?_
        refine lv_icmp_le (tgt := 28) hx hb dX1_countOf_23 (by decide) (fun c_4 => ?_) (fun c_4 => ?_)
        · have h := h.1 c_4
          refine lv_aload_n hx hb dX1_countOf_28 rfl (lv_at hl 0 rfl) ?_
          refine x_get (C := RX1) (T := TX1) (N := 8) hx hb hts inX1_countOf_X1 hown hG hw (xOh hq) rfl 2 (by decide) (hts (.fieldLink RX1 28 "SixNumbers$Heap" "counts" "[[J") (List.mem_of_getElem? (i := 1) rfl)) (fun _ h9 => h9) (v := .ref (xad G (4 + 6 * q))) (xf_h2 hq) dX1_countOf_29 ?_
          refine lv_iload_n hx hb dX1_countOf_32 rfl (lv_at hl 1 rfl) ?_
          have i_5 := h.1
          have h := h.2
          refine x_aald hx hb hG hw (xhC hq) .long rfl i_5 dX1_countOf_33 ?_
          refine lv_iload_n hx hb dX1_countOf_34 rfl (lv_at hl 2 rfl) ?_
          have i_6 := h.1
          have h := h.2
          refine x_lald hx hb hG hw (xrC hq i_5) i_6 dX1_countOf_35 ?_
          exact x_lret hx hb hr hlocks hG hw ⟨h, rfl, rfl⟩ dX1_countOf_36
        · have h := h.2 c_4
          refine lv_lconst (v := 0) hx hb dX1_countOf_26 (by decide) ?_
          exact x_lret hx hb hr hlocks hG hw ⟨h, rfl, rfl⟩ dX1_countOf_27
theorem c_X1_countOf {l : Launch} {G : xGt} {q : Nat} (hq : q < 2) {x1 : Int32} {x2 : Int32} {A : xM} {L : xL} {post : Int64 → Prop} (h : v_X1_countOf q x1 x2 A L post) : Met l yX1_countOf wsX1_countOf rX1_countOf (va_Pc [.ref (xad G (2 + 6 * q)), .int x1, .int x2] (xPre G A L)) (xQl G (xpl A L post)) 0 0 (xAf G) :=
  x_met RX1 rfl (by decide) rfl (Nat.le_of_ble_eq_true rfl) (fun p e s m below meth c ls C0 hw hl => t_X1_countOf_0 C0 hq hw hl h)
end MECH
abbrev rX1_changeEverySet : Room := { frames := 0, cells := 0, slots := 0, locals := 0 }
theorem inX1_changeEverySet_X1 : ∀ w ∈ wsX10, w ∈ wsX1_changeEverySet := fun w h => List.mem_cons_of_mem _ (List.mem_append_right _ h)
def v_X1_changeEverySet (q : Nat) (A : xM) (L : xL) (post : xM → xL → Prop) : Prop := ∀ A_1 : xM, A_1 = xu A (2 + 6 * q) 7 (((1 : Int32) <<< ((nI (6 - 2 * q)) &&& 31)) - (1 : Int32)) → (post A_1 L)
section MECH
variable {p : Program} {l : Launch} {e : Env} {s : State} {m : MethodId} {args : Array Value} {below : List Frame} {meth : Method} {c : Code} {G : xGt}
set_option maxHeartbeats 4000000 in
set_option maxRecDepth 100000 in
theorem t_X1_changeEverySet_0 (C0 : xC p s m args meth c G cX1_changeEverySet none wsX1_changeEverySet RX1 1) {q : Nat} (hq : q < 2) {post : xM → xL → Prop} {A : xM} {L : xL} {H : Heap} {locs : List Loc} {ls : Array Slot} (hw : xW G s.heap A L H locs) (hl : lv_has ls 1 [(0, .ref (xad G (2 + 6 * q)))]) (h : v_X1_changeEverySet q A L post) : W p l e rX1_changeEverySet s m args below meth c H locs 0 0 (MQ below (xQv G post) args s 0 0 (xAf G)) (F0 m 0 ls []) := by
  obtain ⟨hx, hb, hr, hts, hown, hml, hlocks, hG⟩ := id C0
  unfold v_X1_changeEverySet at h
  refine lv_aload_n hx hb dX1_changeEverySet_0 rfl (lv_at hl 0 rfl) ?_
  refine lv_iconst (v := 1) hx hb dX1_changeEverySet_1 (by decide) ?_
  refine lv_aload_n hx hb dX1_changeEverySet_2 rfl (lv_at hl 0 rfl) ?_
  refine x_get (C := RX1) (T := TX1) (N := 8) hx hb hts inX1_changeEverySet_X1 hown hG hw (xOh hq) rfl 1 (by decide) (hts (.fieldLink RX1 22 "SixNumbers$Heap" "items" "[I") (List.mem_of_getElem? (i := 1) rfl)) (fun _ h9 => h9) (v := .ref (xad G (3 + 6 * q))) (xf_h1 hq) dX1_changeEverySet_3 ?_
  refine x_alenI hx hb hG hw (xhI hq) dX1_changeEverySet_6 ?_
  refine lv_ishl hx hb dX1_changeEverySet_7 ?_
  refine lv_iconst (v := 1) hx hb dX1_changeEverySet_8 (by decide) ?_
  refine lv_isub hx hb dX1_changeEverySet_9 ?_
  refine x_put (C := RX1) (T := TX1) (N := 8) hx hb hts inX1_changeEverySet_X1 tyX1 tyX1_ok nmX1 hown hG hw (xOh hq) rfl 7 (by decide) (hts (.fieldLink RX1 15 "SixNumbers$Heap" "changed" "I") (List.mem_of_getElem? (i := 2) rfl)) (fun _ h9 => h9) rfl (ty := .int) (by decide +kernel) rfl rfl (xf_l hq 7 (by decide)) (xf_s7 hq _ _ _) dX1_changeEverySet_10 (fun A_1 H locs eA_1 hw => ?_)
  have h := h A_1 eA_1
  exact x_vret hx hb hr hlocks hG hw h dX1_changeEverySet_13
theorem c_X1_changeEverySet {l : Launch} {G : xGt} {q : Nat} (hq : q < 2) {A : xM} {L : xL} {post : xM → xL → Prop} (h : v_X1_changeEverySet q A L post) : Met l yX1_changeEverySet wsX1_changeEverySet rX1_changeEverySet (va_Pc [.ref (xad G (2 + 6 * q))] (xPre G A L)) (xQv G post) 0 0 (xAf G) :=
  x_met RX1 rfl (by decide) rfl (Nat.le_of_ble_eq_true rfl) (fun p e s m below meth c ls C0 hw hl => t_X1_changeEverySet_0 C0 hq hw hl h)
end MECH
