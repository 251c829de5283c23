abbrev rX4_arrive : Room := { frames := 1, cells := 0, slots := 0, locals := 22 }
theorem inX4_arrive_X4 : ∀ w ∈ wsX40, w ∈ wsX4_arrive := fun w h => List.mem_cons_of_mem _ (List.mem_append_right _ h)
def v_X4_arrive (x1 : Int32) (x2 : Int32) (A : xM) (L : xL) (post : xM → xL → Prop) : Prop := v_X5_isOutside x1 (0 : Int32) (5040 : Int32) (fun (r_1 : Int32) => ((¬ r_1 = 0 → (post A L)) ∧ (r_1 = 0 → (vp_in x1 5041 ∧ ((¬ (A 21 x1.toNatClampNeg) = (-1 : Int32) → (post A L)) ∧ ((A 21 x1.toNatClampNeg) = (-1 : Int32) → (((A 20 2) < (nI 5041) → (∀ A_6 : xM, A_6 = xu A 21 x1.toNatClampNeg x2 → (vp_in (A_6 20 2) 5041 ∧ (∀ A_8 : xM, A_8 = xu A_6 22 (A_6 20 2).toNatClampNeg x1 → (∀ A_9 : xM, A_9 = xu A_8 20 2 ((A_8 20 2) + (1 : Int32)) → (post A_9 L)))))) ∧ (¬ (A 20 2) < (nI 5041) → (post A L)))))))))
section MECH
variable {p : Program} {l : Launch} {e : Env} {s : State} {m : MethodId} {args : Array Value} {below : List Frame} {meth : Method} {c : Code} {G : xGt}
set_option maxHeartbeats 4000000 in
set_option maxRecDepth 100000 in
theorem t_X4_arrive_0 (C0 : xC p s m args meth c G cX4_arrive none wsX4_arrive RX4 3) {post : xM → xL → Prop} {x1 : Int32} {x2 : Int32} {A : xM} {L : xL} {H : Heap} {locs : List Loc} {ls : Array Slot} (hw : xW G s.heap A L H locs) (hl : lv_has ls 3 [(0, .ref (xad G 20)), (1, .int x1), (2, .int x2)]) (h : v_X4_arrive x1 x2 A L post) : W p l e rX4_arrive s m args below meth c H locs 0 0 (MQ below (xQv G post) args s 0 0 (xAf G)) (F0 m 0 ls []) := by
  obtain ⟨hx, hb, hr, hts, hown, hml, hlocks, hG⟩ := id C0
  unfold v_X4_arrive at h
  refine lv_iload_n hx hb dX4_arrive_0 rfl (lv_at hl 1 rfl) ?_
  refine lv_iconst (v := 0) hx hb dX4_arrive_1 (by decide) ?_
  refine lv_sipush (v := 5040) hx hb dX4_arrive_2 (by decide) ?_
  refine x_calli hG hw (va_runSN (As := [.int x1, .int (0 : Int32), .int (5040 : Int32)]) (rest := []) ⟨hx, hb, hml, hown, hts⟩ (c_X5_isOutside (l := l) (G := G) h) ⟨va_cnB 3 hts ggX4_arrive_X5_isOutside rfl rfl rfl (hG.2.2.2.1 _ (List.mem_of_getElem? (i := 10) rfl)) (hts _ (List.mem_of_getElem? (i := 5) rfl)) (by decide +kernel) ⟨Nat.le_of_ble_eq_true rfl, Nat.le_of_ble_eq_true rfl⟩, (hts _ (List.mem_of_getElem? (i := 4) rfl)), trivial⟩ (x_preS hG hw) rfl rfl hl.1 rfl (lv_room (Nat.le_of_ble_eq_true rfl)) dX4_arrive_5 ⟨Nat.le_of_ble_eq_true rfl, Nat.le_of_ble_eq_true rfl⟩) (fun r_1 A9 L9 H locs hw h => ?_)
  rw [h.2.1, h.2.2] at hw
  have h := h.1
  refine lv_if_ne (tgt := 33) hx hb dX4_arrive_8 (by decide) (fun c_2 => ?_) (fun c_2 => ?_)
  · have h := h.1 c_2
    exact x_vret hx hb hr hlocks hG hw h dX4_arrive_33
  · have h := h.2 c_2
    refine lv_aload_n hx hb dX4_arrive_11 rfl (lv_at hl 0 rfl) ?_
    refine x_get (C := RX4) (T := TX4) (N := 4) hx hb hts inX4_arrive_X4 hown hG hw xO20 rfl 0 (by decide) (hts (.fieldLink RX4 9 "SixNumbers$Signs" "steps" "[I") (List.mem_of_getElem? (i := 1) rfl)) (fun _ h9 => h9) (v := .ref (xad G 21)) rfl dX4_arrive_12 ?_
    refine lv_iload_n hx hb dX4_arrive_15 rfl (lv_at hl 1 rfl) ?_
    have i_3 := h.1
    have h := h.2
    refine x_iald hx hb hG hw xb21 i_3 dX4_arrive_16 ?_
    refine lv_iconst (v := (-1)) hx hb dX4_arrive_17 (by decide) ?_
    refine lv_icmp_ne (tgt := 33) hx hb dX4_arrive_18 (by decide) (fun c_4 => ?_) (fun c_4 => ?_)
    · have h := h.1 c_4
      exact x_vret hx hb hr hlocks hG hw h dX4_arrive_33
    · have h := h.2 c_4
      refine lv_aload_n hx hb dX4_arrive_21 rfl (lv_at hl 0 rfl) ?_
      refine x_get (C := RX4) (T := TX4) (N := 4) hx hb hts inX4_arrive_X4 hown hG hw xO20 rfl 2 (by decide) (hts (.fieldLink RX4 18 "SixNumbers$Signs" "waiting" "I") (List.mem_of_getElem? (i := 2) rfl)) (fun _ h9 => h9) (v := .int (A 20 2)) rfl dX4_arrive_22 ?_
      refine lv_aload_n hx hb dX4_arrive_25 rfl (lv_at hl 0 rfl) ?_
      refine x_get (C := RX4) (T := TX4) (N := 4) hx hb hts inX4_arrive_X4 hown hG hw xO20 rfl 1 (by decide) (hts (.fieldLink RX4 15 "SixNumbers$Signs" "queue" "[I") (List.mem_of_getElem? (i := 3) rfl)) (fun _ h9 => h9) (v := .ref (xad G 22)) rfl dX4_arrive_26 ?_
      refine x_alenI hx hb hG hw xb22 dX4_arrive_29 ?_
      refine lv_icmp_lt (tgt := 34) hx hb dX4_arrive_30 (by decide) (fun c_5 => ?_) (fun c_5 => ?_)
      · have h := h.1 c_5
        refine lv_aload_n hx hb dX4_arrive_34 rfl (lv_at hl 0 rfl) ?_
        refine x_get (C := RX4) (T := TX4) (N := 4) hx hb hts inX4_arrive_X4 hown hG hw xO20 rfl 0 (by decide) (hts (.fieldLink RX4 9 "SixNumbers$Signs" "steps" "[I") (List.mem_of_getElem? (i := 1) rfl)) (fun _ h9 => h9) (v := .ref (xad G 21)) rfl dX4_arrive_35 ?_
        refine lv_iload_n hx hb dX4_arrive_38 rfl (lv_at hl 1 rfl) ?_
        refine lv_iload_n hx hb dX4_arrive_39 rfl (lv_at hl 2 rfl) ?_
        refine x_iast hx hb hG hw xb21 i_3 dX4_arrive_40 (fun A_6 H locs eA_6 hw => ?_)
        have h := h A_6 eA_6
        refine lv_aload_n hx hb dX4_arrive_41 rfl (lv_at hl 0 rfl) ?_
        refine x_get (C := RX4) (T := TX4) (N := 4) hx hb hts inX4_arrive_X4 hown hG hw xO20 rfl 1 (by decide) (hts (.fieldLink RX4 15 "SixNumbers$Signs" "queue" "[I") (List.mem_of_getElem? (i := 3) rfl)) (fun _ h9 => h9) (v := .ref (xad G 22)) rfl dX4_arrive_42 ?_
        refine lv_aload_n hx hb dX4_arrive_45 rfl (lv_at hl 0 rfl) ?_
        refine x_get (C := RX4) (T := TX4) (N := 4) hx hb hts inX4_arrive_X4 hown hG hw xO20 rfl 2 (by decide) (hts (.fieldLink RX4 18 "SixNumbers$Signs" "waiting" "I") (List.mem_of_getElem? (i := 2) rfl)) (fun _ h9 => h9) (v := .int (A_6 20 2)) rfl dX4_arrive_46 ?_
        refine lv_iload_n hx hb dX4_arrive_49 rfl (lv_at hl 1 rfl) ?_
        have i_7 := h.1
        have h := h.2
        refine x_iast hx hb hG hw xb22 i_7 dX4_arrive_50 (fun A_8 H locs eA_8 hw => ?_)
        have h := h A_8 eA_8
        refine lv_aload_n hx hb dX4_arrive_51 rfl (lv_at hl 0 rfl) ?_
        refine lv_dup hx hb dX4_arrive_52 rfl ?_
        refine x_get (C := RX4) (T := TX4) (N := 4) hx hb hts inX4_arrive_X4 hown hG hw xO20 rfl 2 (by decide) (hts (.fieldLink RX4 18 "SixNumbers$Signs" "waiting" "I") (List.mem_of_getElem? (i := 2) rfl)) (fun _ h9 => h9) (v := .int (A_8 20 2)) rfl dX4_arrive_53 ?_
        refine lv_iconst (v := 1) hx hb dX4_arrive_56 (by decide) ?_
        refine lv_iadd hx hb dX4_arrive_57 ?_
        refine x_put (C := RX4) (T := TX4) (N := 4) hx hb hts inX4_arrive_X4 tyX4 tyX4_ok nmX4 hown hG hw xO20 rfl 2 (by decide) (hts (.fieldLink RX4 18 "SixNumbers$Signs" "waiting" "I") (List.mem_of_getElem? (i := 2) rfl)) (fun _ h9 => h9) rfl (ty := .int) (by decide +kernel) rfl rfl (Nat.le_of_ble_eq_true rfl) rfl dX4_arrive_58 (fun A_9 H locs eA_9 hw => ?_)
        have h := h A_9 eA_9
        exact x_vret hx hb hr hlocks hG hw h dX4_arrive_61
      · have h := h.2 c_5
        exact x_vret hx hb hr hlocks hG hw h dX4_arrive_33
theorem c_X4_arrive {l : Launch} {G : xGt} {x1 : Int32} {x2 : Int32} {A : xM} {L : xL} {post : xM → xL → Prop} (h : v_X4_arrive x1 x2 A L post) : Met l yX4_arrive wsX4_arrive rX4_arrive (va_Pc [.ref (xad G 20), .int x1, .int x2] (xPre G A L)) (xQv G post) 0 0 (xAf G) :=
  x_met RX4 rfl (by decide) rfl (Nat.le_of_ble_eq_true rfl) (fun p e s m below meth c ls C0 hw hl => t_X4_arrive_0 C0 hw hl h)
end MECH
abbrev rX4_rootOf : Room := { frames := 0, cells := 0, slots := 0, locals := 0 }
def v_X4_rootOf_24 (x0 : Int32) (x1 : Int32) (x2 : Int32) (R_5 : Int32 → Int32 → Prop) (post : Int32 → Prop) : Prop := ∀ x2_1 : Int32, x2_1 = (x2 / (2 : Int32)) → (R_5 x1 x2_1)
def v_X4_rootOf_5 (x0 : Int32) (post : Int32 → Prop) : Nat → Int32 → Int32 → Prop
  | 0, _, _ => False
  | n + 1, x1, x2 => (x2 ≤ 0 → (post x1)) ∧ (¬ x2 ≤ 0 → ((x0 < ((x1 + x2) * (x1 + x2)) → (v_X4_rootOf_24 x0 x1 x2 (fun x1 x2 => v_X4_rootOf_5 x0 post n x1 x2) post)) ∧ (¬ x0 < ((x1 + x2) * (x1 + x2)) → (∀ x1_3 : Int32, x1_3 = (x1 + x2) → (v_X4_rootOf_24 x0 x1_3 x2 (fun x1 x2 => v_X4_rootOf_5 x0 post n x1 x2) post)))))
def v_X4_rootOf (x0 : Int32) (post : Int32 → Prop) : Prop := ∃ k9 : Nat, v_X4_rootOf_5 x0 post k9 (0 : Int32) (64 : Int32)
section MECH
variable {p : Program} {l : Launch} {e : Env} {s : State} {m : MethodId} {args : Array Value} {below : List Frame} {meth : Method} {c : Code} {G : xGt}
set_option maxHeartbeats 4000000 in
set_option maxRecDepth 100000 in
theorem t_X4_rootOf_24 (C0 : xC p s m args meth c G cX4_rootOf (some .int) wsX4_rootOf RX4 3) {post : Int32 → Prop} {x0 : Int32} {x1 : Int32} {x2 : Int32} {A : xM} {L : xL} {R_5 : Int32 → Int32 → Prop} (hR_5 : ∀ (x1 : Int32) (x2 : Int32) (H : Heap) (locs : List Loc) (ls : Array Slot), xW G s.heap A L H locs → lv_has ls 3 [(0, .int x0), (1, .int x1), (2, .int x2)] → R_5 x1 x2 → W p l e rX4_rootOf s m args below meth c H locs 0 0 (MQ below (xQi G (xpi A L post)) args s 0 0 (xAf G)) (F0 m 5 ls [])) {H : Heap} {locs : List Loc} {ls : Array Slot} (hw : xW G s.heap A L H locs) (hl : lv_has ls 3 [(0, .int x0), (1, .int x1), (2, .int x2)]) (h : v_X4_rootOf_24 x0 x1 x2 R_5 post) : W p l e rX4_rootOf s m args below meth c H locs 0 0 (MQ below (xQi G (xpi A L post)) args s 0 0 (xAf G)) (F0 m 24 ls []) := by
  obtain ⟨hx, hb, hr, hts, hown, hml, hlocks, hG⟩ := id C0
  unfold v_X4_rootOf_24 at h
  refine lv_iload_n hx hb dX4_rootOf_24 rfl (lv_at hl 2 rfl) ?_
  refine lv_iconst (v := 2) hx hb dX4_rootOf_25 (by decide) ?_
  refine lv_idiv hx hb dX4_rootOf_26 (by decide) ?_
  refine lv_topi (fun x2_1 ex2_1 => ?_)
  have h := h x2_1 ex2_1
  refine lv_istore_n (lv' := [(2, .int x2_1), (0, .int x0), (1, .int x1)]) hx hb dX4_rootOf_27 rfl hl (by decide) rfl (fun ls hl => ?_)
  refine lv_goto (tgt := 5) hx hb dX4_rootOf_28 (by decide) ?_
  exact hR_5 x1 x2_1 _ _ _ hw (lv_sub hl [1, 2, 0] rfl) h
set_option maxHeartbeats 4000000 in
set_option maxRecDepth 100000 in
theorem t_X4_rootOf_5 (C0 : xC p s m args meth c G cX4_rootOf (some .int) wsX4_rootOf RX4 3) {post : Int32 → Prop} {x0 : Int32} {A : xM} {L : xL} : ∀ (n : Nat) (x1 : Int32) (x2 : Int32) (H : Heap) (locs : List Loc) (ls : Array Slot), xW G s.heap A L H locs → lv_has ls 3 [(0, .int x0), (1, .int x1), (2, .int x2)] → v_X4_rootOf_5 x0 post n x1 x2 → W p l e rX4_rootOf s m args below meth c H locs 0 0 (MQ below (xQi G (xpi A L post)) args s 0 0 (xAf G)) (F0 m 5 ls []) := by
  obtain ⟨hx, hb, hr, hts, hown, hml, hlocks, hG⟩ := id C0
  intro n
  induction n with
  | zero => intro x1 x2 H locs ls hw hl h; exact (show False from h).elim
  | succ n ih =>
    intro x1 x2 H locs ls hw hl h
    unfold v_X4_rootOf_5 at h
    refine lv_iload_n hx hb dX4_rootOf_5 rfl (lv_at hl 2 rfl) ?_
    refine lv_if_le (tgt := 31) hx hb dX4_rootOf_6 (by decide) (fun c_1 => ?_) (fun c_1 => ?_)
    · have h := h.1 c_1
      refine lv_iload_n hx hb dX4_rootOf_31 rfl (lv_at hl 1 rfl) ?_
      exact x_iret hx hb hr hlocks hG hw ⟨h, rfl, rfl⟩ dX4_rootOf_32
    · have h := h.2 c_1
      refine lv_iload_n hx hb dX4_rootOf_9 rfl (lv_at hl 1 rfl) ?_
      refine lv_iload_n hx hb dX4_rootOf_10 rfl (lv_at hl 2 rfl) ?_
      refine lv_iadd hx hb dX4_rootOf_11 ?_
      refine lv_iload_n hx hb dX4_rootOf_12 rfl (lv_at hl 1 rfl) ?_
      refine lv_iload_n hx hb dX4_rootOf_13 rfl (lv_at hl 2 rfl) ?_
      refine lv_iadd hx hb dX4_rootOf_14 ?_
      refine lv_imul hx hb dX4_rootOf_15 ?_
      refine lv_iload_n hx hb dX4_rootOf_16 rfl (lv_at hl 0 rfl) ?_
      refine lv_icmp_gt (tgt := 24) hx hb dX4_rootOf_17 (by decide) (fun c_2 => ?_) (fun c_2 => ?_)
      · have h := h.1 c_2
        exact t_X4_rootOf_24 C0 ih hw (lv_sub hl [0, 1, 2] rfl) h
      · have h := h.2 c_2
        refine lv_iload_n hx hb dX4_rootOf_20 rfl (lv_at hl 1 rfl) ?_
        refine lv_iload_n hx hb dX4_rootOf_21 rfl (lv_at hl 2 rfl) ?_
        refine lv_iadd hx hb dX4_rootOf_22 ?_
        refine lv_topi (fun x1_3 ex1_3 => ?_)
        have h := h x1_3 ex1_3
        refine lv_istore_n (lv' := [(1, .int x1_3), (0, .int x0), (2, .int x2)]) hx hb dX4_rootOf_23 rfl hl (by decide) rfl (fun ls hl => ?_)
        exact t_X4_rootOf_24 C0 ih hw (lv_sub hl [1, 0, 2] rfl) h
set_option maxHeartbeats 4000000 in
set_option maxRecDepth 100000 in
theorem t_X4_rootOf_0 (C0 : xC p s m args meth c G cX4_rootOf (some .int) wsX4_rootOf RX4 3) {post : Int32 → Prop} {x0 : Int32} {A : xM} {L : xL} {H : Heap} {locs : List Loc} {ls : Array Slot} (hw : xW G s.heap A L H locs) (hl : lv_has ls 3 [(0, .int x0)]) (h : v_X4_rootOf x0 post) : W p l e rX4_rootOf s m args below meth c H locs 0 0 (MQ below (xQi G (xpi A L post)) args s 0 0 (xAf G)) (F0 m 0 ls []) := by
  obtain ⟨hx, hb, hr, hts, hown, hml, hlocks, hG⟩ := id C0
  unfold v_X4_rootOf at h
  refine lv_iconst (v := 0) hx hb dX4_rootOf_0 (by decide) ?_
  refine lv_istore_n (lv' := [(1, .int (0 : Int32)), (0, .int x0)]) hx hb dX4_rootOf_1 rfl hl (by decide) rfl (fun ls hl => ?_)
  refine lv_bipush (v := 64) hx hb dX4_rootOf_2 (by decide) ?_
  refine lv_istore_n (lv' := [(2, .int (64 : Int32)), (1, .int (0 : Int32)), (0, .int x0)]) hx hb dX4_rootOf_4 rfl hl (by decide) rfl (fun ls hl => ?_)
  obtain ⟨n9, h⟩ := h
  exact t_X4_rootOf_5 C0 n9 (0 : Int32) (64 : Int32) _ _ _ hw (lv_sub hl [2, 1, 0] rfl) h
theorem c_X4_rootOf {l : Launch} {G : xGt} {x0 : Int32} {A : xM} {L : xL} {post : Int32 → Prop} (h : v_X4_rootOf x0 post) : Met l yX4_rootOf wsX4_rootOf rX4_rootOf (va_Pc [.int x0] (xPre G A L)) (xQi G (xpi A L post)) 0 0 (xAf G) :=
  x_met RX4 rfl (by decide) rfl (Nat.le_of_ble_eq_true rfl) (fun p e s m below meth c ls C0 hw hl => t_X4_rootOf_0 C0 hw hl h)
end MECH
abbrev rX4_productTo : Room := { frames := 0, cells := 0, slots := 0, locals := 0 }
def v_X4_productTo_4 (x0 : Int32) (post : Int32 → Prop) : Nat → Int32 → Int32 → Prop
  | 0, _, _ => False
  | n + 1, x1, x2 => (x0 < x2 → (post x1)) ∧ (¬ x0 < x2 → (∀ x1_2 : Int32, x1_2 = (x1 * x2) → (∀ x2_3 : Int32, x2_3 = x2 + (1 : Int32) → (v_X4_productTo_4 x0 post n x1_2 x2_3))))
def v_X4_productTo (x0 : Int32) (post : Int32 → Prop) : Prop := ∃ k9 : Nat, v_X4_productTo_4 x0 post k9 (1 : Int32) (2 : Int32)
section MECH
variable {p : Program} {l : Launch} {e : Env} {s : State} {m : MethodId} {args : Array Value} {below : List Frame} {meth : Method} {c : Code} {G : xGt}
set_option maxHeartbeats 4000000 in
set_option maxRecDepth 100000 in
theorem t_X4_productTo_4 (C0 : xC p s m args meth c G cX4_productTo (some .int) wsX4_productTo RX4 3) {post : Int32 → Prop} {x0 : Int32} {A : xM} {L : xL} : ∀ (n : Nat) (x1 : Int32) (x2 : Int32) (H : Heap) (locs : List Loc) (ls : Array Slot), xW G s.heap A L H locs → lv_has ls 3 [(0, .int x0), (1, .int x1), (2, .int x2)] → v_X4_productTo_4 x0 post n x1 x2 → W p l e rX4_productTo s m args below meth c H locs 0 0 (MQ below (xQi G (xpi A L post)) args s 0 0 (xAf G)) (F0 m 4 ls []) := by
  obtain ⟨hx, hb, hr, hts, hown, hml, hlocks, hG⟩ := id C0
  intro n
  induction n with
  | zero => intro x1 x2 H locs ls hw hl h; exact (show False from h).elim
  | succ n ih =>
    intro x1 x2 H locs ls hw hl h
    unfold v_X4_productTo_4 at h
    refine lv_iload_n hx hb dX4_productTo_4 rfl (lv_at hl 2 rfl) ?_
    refine lv_iload_n hx hb dX4_productTo_5 rfl (lv_at hl 0 rfl) ?_
    refine lv_icmp_gt (tgt := 19) hx hb dX4_productTo_6 (by decide) (fun c_1 => ?_) (fun c_1 => ?_)
    · have h := h.1 c_1
      refine lv_iload_n hx hb dX4_productTo_19 rfl (lv_at hl 1 rfl) ?_
      exact x_iret hx hb hr hlocks hG hw ⟨h, rfl, rfl⟩ dX4_productTo_20
    · have h := h.2 c_1
      refine lv_iload_n hx hb dX4_productTo_9 rfl (lv_at hl 1 rfl) ?_
      refine lv_iload_n hx hb dX4_productTo_10 rfl (lv_at hl 2 rfl) ?_
      refine lv_imul hx hb dX4_productTo_11 ?_
      refine lv_topi (fun x1_2 ex1_2 => ?_)
      have h := h x1_2 ex1_2
      refine lv_istore_n (lv' := [(1, .int x1_2), (0, .int x0), (2, .int x2)]) hx hb dX4_productTo_12 rfl hl (by decide) rfl (fun ls hl => ?_)
      obtain ⟨x2_3, ex2_3⟩ : ∃ y : Int32, y = x2 + (1 : Int32) := ⟨_, rfl⟩
      have h := h x2_3 ex2_3
      refine lv_iinc (v := x2_3) (lv' := [(2, .int x2_3), (1, .int x1_2), (0, .int x0)]) hx hb dX4_productTo_13 hl (k := 2) rfl (by rw [ex2_3]; rfl) (by decide) rfl (fun ls hl => ?_)
      refine lv_goto (tgt := 4) hx hb dX4_productTo_16 (by decide) ?_
      exact ih x1_2 x2_3 _ _ _ hw (lv_sub hl [2, 1, 0] rfl) h
set_option maxHeartbeats 4000000 in
set_option maxRecDepth 100000 in
theorem t_X4_productTo_0 (C0 : xC p s m args meth c G cX4_productTo (some .int) wsX4_productTo RX4 3) {post : Int32 → Prop} {x0 : Int32} {A : xM} {L : xL} {H : Heap} {locs : List Loc} {ls : Array Slot} (hw : xW G s.heap A L H locs) (hl : lv_has ls 3 [(0, .int x0)]) (h : v_X4_productTo x0 post) : W p l e rX4_productTo s m args below meth c H locs 0 0 (MQ below (xQi G (xpi A L post)) args s 0 0 (xAf G)) (F0 m 0 ls []) := by
  obtain ⟨hx, hb, hr, hts, hown, hml, hlocks, hG⟩ := id C0
  unfold v_X4_productTo at h
  refine lv_iconst (v := 1) hx hb dX4_productTo_0 (by decide) ?_
  refine lv_istore_n (lv' := [(1, .int (1 : Int32)), (0, .int x0)]) hx hb dX4_productTo_1 rfl hl (by decide) rfl (fun ls hl => ?_)
  refine lv_iconst (v := 2) hx hb dX4_productTo_2 (by decide) ?_
  refine lv_istore_n (lv' := [(2, .int (2 : Int32)), (1, .int (1 : Int32)), (0, .int x0)]) hx hb dX4_productTo_3 rfl hl (by decide) rfl (fun ls hl => ?_)
  obtain ⟨n9, h⟩ := h
  exact t_X4_productTo_4 C0 n9 (1 : Int32) (2 : Int32) _ _ _ hw (lv_sub hl [2, 1, 0] rfl) h
theorem c_X4_productTo {l : Launch} {G : xGt} {x0 : Int32} {A : xM} {L : xL} {post : Int32 → Prop} (h : v_X4_productTo x0 post) : Met l yX4_productTo wsX4_productTo rX4_productTo (va_Pc [.int x0] (xPre G A L)) (xQi G (xpi A L post)) 0 0 (xAf G) :=
  x_met RX4 rfl (by decide) rfl (Nat.le_of_ble_eq_true rfl) (fun p e s m below meth c ls C0 hw hl => t_X4_productTo_0 C0 hw hl h)
end MECH
abbrev rX4_signed : Room := { frames := 1, cells := 0, slots := 0, locals := 22 }
def v_X4_signed (x0 : Int32) (x1 : Int32) (post : Int32 → Prop) : Prop := (x0.toInt < 0 ∨ 2 < x0.toInt → (post (x1 - (1 : Int32)))) ∧ (x0 = (0 : Int32) → (v_X4_rootOf x1 (fun (r_2 : Int32) => (post r_2)))) ∧ (x0 = (1 : Int32) → (((7 : Int32) < x1 → (post (-1 : Int32))) ∧ (¬ (7 : Int32) < x1 → (v_X4_productTo x1 (fun (r_4 : Int32) => (post r_4)))))) ∧ (x0 = (2 : Int32) → (((70 : Int32) < x1 → (post (-1 : Int32))) ∧ (¬ (70 : Int32) < x1 → (post ((x1 * (x1 + (1 : Int32))) / (2 : Int32))))))
section MECH
variable {p : Program} {l : Launch} {e : Env} {s : State} {m : MethodId} {args : Array Value} {below : List Frame} {meth : Method} {c : Code} {G : xGt}
set_option maxHeartbeats 4000000 in
set_option maxRecDepth 100000 in
theorem t_X4_signed_0 (C0 : xC p s m args meth c G cX4_signed (some .int) wsX4_signed RX4 2) {post : Int32 → Prop} {x0 : Int32} {x1 : Int32} {A : xM} {L : xL} {H : Heap} {locs : List Loc} {ls : Array Slot} (hw : xW G s.heap A L H locs) (hl : lv_has ls 2 [(0, .int x0), (1, .int x1)]) (h : v_X4_signed x0 x1 post) : W p l e rX4_signed s m args below meth c H locs 0 0 (MQ below (xQi G (xpi A L post)) args s 0 0 (xAf G)) (F0 m 0 ls []) := by
  obtain ⟨hx, hb, hr, hts, hown, hml, hlocks, hG⟩ := id C0
  unfold v_X4_signed at h
  refine lv_iload_n hx hb dX4_signed_0 rfl (lv_at hl 0 rfl) ?_
  by_cases c_1 : x0.toInt < 0 ∨ 2 < x0.toInt
  · have h := h.1 c_1
    refine lv_tableOut (tgt := 66) hx hb dX4_signed_1 c_1 (by decide) ?_
    refine lv_iload_n hx hb dX4_signed_66 rfl (lv_at hl 1 rfl) ?_
    refine lv_iconst (v := 1) hx hb dX4_signed_67 (by decide) ?_
    refine lv_isub hx hb dX4_signed_68 ?_
    exact x_iret hx hb hr hlocks hG hw ⟨h, rfl, rfl⟩ dX4_signed_69
  · rcases (show x0.toInt = 0 ∨ x0.toInt = 1 ∨ x0.toInt = 2 by omega) with c8 | c8 | c8
    · have c9 : x0 = (0 : Int32) := Int32.toInt_inj.mp (c8.trans (by decide))
      have h := h.2.1 c9
      refine lv_tableIn (tgt := 28) hx hb dX4_signed_1 (by omega) (by omega) (by rw [c8]; rfl) (by decide) ?_
      refine lv_iload_n hx hb dX4_signed_28 rfl (lv_at hl 1 rfl) ?_
      refine x_calli hG hw (va_runS (As := [.int x1]) (rest := []) ⟨hx, hb, hml, hown, hts⟩ (c_X4_rootOf (l := l) (G := G) h) (va_cwS 1 hts gX4_signed_X4_rootOf rfl rfl rfl (by decide +kernel) ⟨Nat.le_of_ble_eq_true rfl, Nat.le_of_ble_eq_true rfl⟩) (x_preS hG hw) rfl rfl hl.1 rfl (lv_room (Nat.le_of_ble_eq_true rfl)) dX4_signed_29 ⟨Nat.le_of_ble_eq_true rfl, Nat.le_of_ble_eq_true rfl⟩) (fun r_2 A9 L9 H locs hw h => ?_)
      rw [h.2.1, h.2.2] at hw
      have h := h.1
      exact x_iret hx hb hr hlocks hG hw ⟨h, rfl, rfl⟩ dX4_signed_32
    · have c9 : x0 = (1 : Int32) := Int32.toInt_inj.mp (c8.trans (by decide))
      have h := h.2.2.1 c9
      refine lv_tableIn (tgt := 33) hx hb dX4_signed_1 (by omega) (by omega) (by rw [c8]; rfl) (by decide) ?_
      refine lv_iload_n hx hb dX4_signed_33 rfl (lv_at hl 1 rfl) ?_
      refine lv_bipush (v := 7) hx hb dX4_signed_34 (by decide) ?_
      refine lv_icmp_gt (tgt := 46) hx hb dX4_signed_36 (by decide) (fun c_3 => ?_) (fun c_3 => ?_)
      · have h := h.1 c_3
        refine lv_iconst (v := (-1)) hx hb dX4_signed_46 (by decide) ?_
        exact x_iret hx hb hr hlocks hG hw ⟨h, rfl, rfl⟩ dX4_signed_47
      · have h := h.2 c_3
        refine lv_iload_n hx hb dX4_signed_39 rfl (lv_at hl 1 rfl) ?_
        refine x_calli hG hw (va_runS (As := [.int x1]) (rest := []) ⟨hx, hb, hml, hown, hts⟩ (c_X4_productTo (l := l) (G := G) h) (va_cwS 1 hts gX4_signed_X4_productTo rfl rfl rfl (by decide +kernel) ⟨Nat.le_of_ble_eq_true rfl, Nat.le_of_ble_eq_true rfl⟩) (x_preS hG hw) rfl rfl hl.1 rfl (lv_room (Nat.le_of_ble_eq_true rfl)) dX4_signed_40 ⟨Nat.le_of_ble_eq_true rfl, Nat.le_of_ble_eq_true rfl⟩) (fun r_4 A9 L9 H locs hw h => ?_)
        rw [h.2.1, h.2.2] at hw
        have h := h.1
        refine lv_goto (tgt := 47) hx hb dX4_signed_43 (by decide) ?_
        exact x_iret hx hb hr hlocks hG hw ⟨h, rfl, rfl⟩ dX4_signed_47
    · have c9 : x0 = (2 : Int32) := Int32.toInt_inj.mp (c8.trans (by decide))
      have h := h.2.2.2 c9
      refine lv_tableIn (tgt := 48) hx hb dX4_signed_1 (by omega) (by omega) (by rw [c8]; rfl) (by decide) ?_
      refine lv_iload_n hx hb dX4_signed_48 rfl (lv_at hl 1 rfl) ?_
      refine lv_bipush (v := 70) hx hb dX4_signed_49 (by decide) ?_
      refine lv_icmp_gt (tgt := 64) hx hb dX4_signed_51 (by decide) (fun c_5 => ?_) (fun c_5 => ?_)
      · have h := h.1 c_5
        refine lv_iconst (v := (-1)) hx hb dX4_signed_64 (by decide) ?_
        exact x_iret hx hb hr hlocks hG hw ⟨h, rfl, rfl⟩ dX4_signed_65
      · have h := h.2 c_5
        refine lv_iload_n hx hb dX4_signed_54 rfl (lv_at hl 1 rfl) ?_
        refine lv_iload_n hx hb dX4_signed_55 rfl (lv_at hl 1 rfl) ?_
        refine lv_iconst (v := 1) hx hb dX4_signed_56 (by decide) ?_
        refine lv_iadd hx hb dX4_signed_57 ?_
        refine lv_imul hx hb dX4_signed_58 ?_
        refine lv_iconst (v := 2) hx hb dX4_signed_59 (by decide) ?_
        refine lv_idiv hx hb dX4_signed_60 (by decide) ?_
        refine lv_goto (tgt := 65) hx hb dX4_signed_61 (by decide) ?_
        exact x_iret hx hb hr hlocks hG hw ⟨h, rfl, rfl⟩ dX4_signed_65
theorem c_X4_signed {l : Launch} {G : xGt} {x0 : Int32} {x1 : Int32} {A : xM} {L : xL} {post : Int32 → Prop} (h : v_X4_signed x0 x1 post) : Met l yX4_signed wsX4_signed rX4_signed (va_Pc [.int x0, .int x1] (xPre G A L)) (xQi G (xpi A L post)) 0 0 (xAf G) :=
  x_met RX4 rfl (by decide) rfl (Nat.le_of_ble_eq_true rfl) (fun p e s m below meth c ls C0 hw hl => t_X4_signed_0 C0 hw hl h)
end MECH
abbrev rX4_walkFrom : Room := { frames := 2, cells := 0, slots := 0, locals := 44 }
theorem inX4_walkFrom_X4 : ∀ w ∈ wsX40, w ∈ wsX4_walkFrom := fun w h => List.mem_cons_of_mem _ (List.mem_append_right _ h)
def v_X4_walkFrom_69 (x2 : Int32) (x3 : Int32) (R_42 : Int32 → xM → xL → Prop) (post : xM → xL → Prop) : Nat → Int32 → xM → xL → Prop
  | 0, _, _, _ => False
  | n + 1, x4, A, L => ((4 : Int32) ≤ x4 → (∀ x2_2 : Int32, x2_2 = x2 + (1 : Int32) → (R_42 x2_2 A L))) ∧ (¬ (4 : Int32) ≤ x4 → (v_X4_signed x4 x3 (fun (r_3 : Int32) => (vp_in x3 5041 ∧ (v_X4_arrive r_3 ((A 21 x3.toNatClampNeg) + (1 : Int32)) A L (fun (A_5 : xM) (L_6 : xL) => (∀ x4_7 : Int32, x4_7 = x4 + (1 : Int32) → (v_X4_walkFrom_69 x2 x3 R_42 post n x4_7 A_5 L_6))))))))
def v_X4_walkFrom_42 (post : xM → xL → Prop) : Nat → Int32 → xM → xL → Prop
  | 0, _, _, _ => False
  | n + 1, x2, A, L => ((A 20 2) ≤ x2 → (post A L)) ∧ (¬ (A 20 2) ≤ x2 → (((nI 5041) ≤ x2 → (post A L)) ∧ (¬ (nI 5041) ≤ x2 → (vp_in x2 5041 ∧ (∀ x3_4 : Int32, x3_4 = (A 22 x2.toNatClampNeg) → (∃ k9 : Nat, v_X4_walkFrom_69 x2 x3_4 (fun x2 A L => v_X4_walkFrom_42 post n x2 A L) post k9 (0 : Int32) A L))))))
def v_X4_walkFrom_12 (x1 : Int32) (post : xM → xL → Prop) : Nat → Int32 → xM → xL → Prop
  | 0, _, _, _ => False
  | n + 1, x2, A, L => ((nI 5041) ≤ x2 → (v_X4_arrive x1 (0 : Int32) A L (fun (A_2 : xM) (L_3 : xL) => (∃ k9 : Nat, v_X4_walkFrom_42 post k9 (0 : Int32) A_2 L_3)))) ∧ (¬ (nI 5041) ≤ x2 → (vp_in x2 5041 ∧ (∀ A_5 : xM, A_5 = xu A 21 x2.toNatClampNeg (-1 : Int32) → (∀ x2_6 : Int32, x2_6 = x2 + (1 : Int32) → (v_X4_walkFrom_12 x1 post n x2_6 A_5 L)))))
def v_X4_walkFrom (x1 : Int32) (A : xM) (L : xL) (post : xM → xL → Prop) : Prop := ∀ A_1 : xM, A_1 = xu A 20 3 x1 → (∀ A_2 : xM, A_2 = xu A_1 20 2 (0 : Int32) → (∃ k9 : Nat, v_X4_walkFrom_12 x1 post k9 (0 : Int32) A_2 L))
section MECH
variable {p : Program} {l : Launch} {e : Env} {s : State} {m : MethodId} {args : Array Value} {below : List Frame} {meth : Method} {c : Code} {G : xGt}
set_option maxHeartbeats 4000000 in
set_option maxRecDepth 100000 in
theorem t_X4_walkFrom_69 (C0 : xC p s m args meth c G cX4_walkFrom none wsX4_walkFrom RX4 5) {post : xM → xL → Prop} {x2 : Int32} {x3 : Int32} {R_42 : Int32 → xM → xL → Prop} (hR_42 : ∀ (x2 : Int32) (A : xM) (L : xL) (H : Heap) (locs : List Loc) (ls : Array Slot), xW G s.heap A L H locs → lv_has ls 5 [(0, .ref (xad G 20)), (2, .int x2)] → R_42 x2 A L → W p l e rX4_walkFrom s m args below meth c H locs 0 0 (MQ below (xQv G post) args s 0 0 (xAf G)) (F0 m 42 ls [])) : ∀ (n : Nat) (x4 : Int32) (A : xM) (L : xL) (H : Heap) (locs : List Loc) (ls : Array Slot), xW G s.heap A L H locs → lv_has ls 5 [(0, .ref (xad G 20)), (2, .int x2), (3, .int x3), (4, .int x4)] → v_X4_walkFrom_69 x2 x3 R_42 post n x4 A L → W p l e rX4_walkFrom s m args below meth c H locs 0 0 (MQ below (xQv G post) args s 0 0 (xAf G)) (F0 m 69 ls []) := by
  obtain ⟨hx, hb, hr, hts, hown, hml, hlocks, hG⟩ := id C0
  intro n
  induction n with
  | zero => intro x4 A L H locs ls hw hl h; exact (show False from h).elim
  | succ n ih =>
    intro x4 A L H locs ls hw hl h
    unfold v_X4_walkFrom_69 at h
    refine lv_iload hx hb dX4_walkFrom_69 (lv_at hl 3 rfl) ?_
    refine lv_iconst (v := 4) hx hb dX4_walkFrom_71 (by decide) ?_
    refine lv_icmp_ge (tgt := 99) hx hb dX4_walkFrom_72 (by decide) (fun c_1 => ?_) (fun c_1 => ?_)
    · have h := h.1 c_1
      obtain ⟨x2_2, ex2_2⟩ : ∃ y : Int32, y = x2 + (1 : Int32) := ⟨_, rfl⟩
      have h := h x2_2 ex2_2
      refine lv_iinc (v := x2_2) (lv' := [(2, .int x2_2), (0, .ref (xad G 20)), (3, .int x3), (4, .int x4)]) hx hb dX4_walkFrom_99 hl (k := 1) rfl (by rw [ex2_2]; rfl) (by decide) rfl (fun ls hl => ?_)
      refine lv_goto (tgt := 42) hx hb dX4_walkFrom_102 (by decide) ?_
      exact hR_42 x2_2 A L _ _ _ hw (lv_sub hl [1, 0] rfl) h
    · have h := h.2 c_1
      refine lv_aload_n hx hb dX4_walkFrom_75 rfl (lv_at hl 0 rfl) ?_
      refine lv_iload hx hb dX4_walkFrom_76 (lv_at hl 3 rfl) ?_
      refine lv_iload_n hx hb dX4_walkFrom_78 rfl (lv_at hl 2 rfl) ?_
      refine x_calli hG hw (va_runS (As := [.int x4, .int x3]) (rest := [.ref (xad G 20)]) ⟨hx, hb, hml, hown, hts⟩ (c_X4_signed (l := l) (G := G) h) (va_cwS 2 hts gX4_walkFrom_X4_signed rfl rfl rfl (by decide +kernel) ⟨Nat.le_of_ble_eq_true rfl, Nat.le_of_ble_eq_true rfl⟩) (x_preS hG hw) rfl rfl hl.1 rfl (lv_room (Nat.le_of_ble_eq_true rfl)) dX4_walkFrom_79 ⟨Nat.le_of_ble_eq_true rfl, Nat.le_of_ble_eq_true rfl⟩) (fun r_3 A9 L9 H locs hw h => ?_)
      rw [h.2.1, h.2.2] at hw
      have h := h.1
      refine lv_aload_n hx hb dX4_walkFrom_82 rfl (lv_at hl 0 rfl) ?_
      refine x_get (C := RX4) (T := TX4) (N := 4) hx hb hts inX4_walkFrom_X4 hown hG hw xO20 rfl 0 (by decide) (hts (.fieldLink RX4 9 "SixNumbers$Signs" "steps" "[I") (List.mem_of_getElem? (i := 3) rfl)) (fun _ h9 => h9) (v := .ref (xad G 21)) rfl dX4_walkFrom_83 ?_
      refine lv_iload_n hx hb dX4_walkFrom_86 rfl (lv_at hl 2 rfl) ?_
      have i_4 := h.1
      have h := h.2
      refine x_iald hx hb hG hw xb21 i_4 dX4_walkFrom_87 ?_
      refine lv_iconst (v := 1) hx hb dX4_walkFrom_88 (by decide) ?_
      refine lv_iadd hx hb dX4_walkFrom_89 ?_
      refine x_callv hG hw (va_runV (As := [.int r_3, .int ((A 21 x3.toNatClampNeg) + (1 : Int32))]) (rest := []) ⟨hx, hb, hml, hown, hts⟩ (c_X4_arrive (l := l) (G := G) h) (cwV 2 hts gX4_walkFrom_X4_arrive rfl rfl rfl (by decide +kernel) ⟨Nat.le_of_ble_eq_true rfl, Nat.le_of_ble_eq_true rfl⟩) (x_preV hG hw xO20 rfl) rfl rfl hl.1 rfl (lv_room (Nat.le_of_ble_eq_true rfl)) dX4_walkFrom_90 ⟨Nat.le_of_ble_eq_true rfl, Nat.le_of_ble_eq_true rfl⟩) (fun A_5 L_6 H locs hw h => ?_)
      obtain ⟨x4_7, ex4_7⟩ : ∃ y : Int32, y = x4 + (1 : Int32) := ⟨_, rfl⟩
      have h := h x4_7 ex4_7
      refine lv_iinc (v := x4_7) (lv' := [(4, .int x4_7), (0, .ref (xad G 20)), (2, .int x2), (3, .int x3)]) hx hb dX4_walkFrom_93 hl (k := 3) rfl (by rw [ex4_7]; rfl) (by decide) rfl (fun ls hl => ?_)
      refine lv_goto (tgt := 69) hx hb dX4_walkFrom_96 (by decide) ?_
      exact ih x4_7 A_5 L_6 _ _ _ hw (lv_sub hl [1, 2, 3, 0] rfl) h
set_option maxHeartbeats 4000000 in
set_option maxRecDepth 100000 in
theorem t_X4_walkFrom_42 (C0 : xC p s m args meth c G cX4_walkFrom none wsX4_walkFrom RX4 5) {post : xM → xL → Prop} : ∀ (n : Nat) (x2 : Int32) (A : xM) (L : xL) (H : Heap) (locs : List Loc) (ls : Array Slot), xW G s.heap A L H locs → lv_has ls 5 [(0, .ref (xad G 20)), (2, .int x2)] → v_X4_walkFrom_42 post n x2 A L → W p l e rX4_walkFrom s m args below meth c H locs 0 0 (MQ below (xQv G post) args s 0 0 (xAf G)) (F0 m 42 ls []) := by
  obtain ⟨hx, hb, hr, hts, hown, hml, hlocks, hG⟩ := id C0
  intro n
  induction n with
  | zero => intro x2 A L H locs ls hw hl h; exact (show False from h).elim
  | succ n ih =>
    intro x2 A L H locs ls hw hl h
    unfold v_X4_walkFrom_42 at h
    refine lv_iload_n hx hb dX4_walkFrom_42 rfl (lv_at hl 1 rfl) ?_
    refine lv_aload_n hx hb dX4_walkFrom_43 rfl (lv_at hl 0 rfl) ?_
    refine x_get (C := RX4) (T := TX4) (N := 4) hx hb hts inX4_walkFrom_X4 hown hG hw xO20 rfl 2 (by decide) (hts (.fieldLink RX4 18 "SixNumbers$Signs" "waiting" "I") (List.mem_of_getElem? (i := 2) rfl)) (fun _ h9 => h9) (v := .int (A 20 2)) rfl dX4_walkFrom_44 ?_
    refine lv_icmp_ge (tgt := 105) hx hb dX4_walkFrom_47 (by decide) (fun c_1 => ?_) (fun c_1 => ?_)
    · have h := h.1 c_1
      exact x_vret hx hb hr hlocks hG hw h dX4_walkFrom_105
    · have h := h.2 c_1
      refine lv_iload_n hx hb dX4_walkFrom_50 rfl (lv_at hl 1 rfl) ?_
      refine lv_aload_n hx hb dX4_walkFrom_51 rfl (lv_at hl 0 rfl) ?_
      refine x_get (C := RX4) (T := TX4) (N := 4) hx hb hts inX4_walkFrom_X4 hown hG hw xO20 rfl 1 (by decide) (hts (.fieldLink RX4 15 "SixNumbers$Signs" "queue" "[I") (List.mem_of_getElem? (i := 4) rfl)) (fun _ h9 => h9) (v := .ref (xad G 22)) rfl dX4_walkFrom_52 ?_
      refine x_alenI hx hb hG hw xb22 dX4_walkFrom_55 ?_
      refine lv_icmp_ge (tgt := 105) hx hb dX4_walkFrom_56 (by decide) (fun c_2 => ?_) (fun c_2 => ?_)
      · have h := h.1 c_2
        exact x_vret hx hb hr hlocks hG hw h dX4_walkFrom_105
      · have h := h.2 c_2
        refine lv_aload_n hx hb dX4_walkFrom_59 rfl (lv_at hl 0 rfl) ?_
        refine x_get (C := RX4) (T := TX4) (N := 4) hx hb hts inX4_walkFrom_X4 hown hG hw xO20 rfl 1 (by decide) (hts (.fieldLink RX4 15 "SixNumbers$Signs" "queue" "[I") (List.mem_of_getElem? (i := 4) rfl)) (fun _ h9 => h9) (v := .ref (xad G 22)) rfl dX4_walkFrom_60 ?_
        refine lv_iload_n hx hb dX4_walkFrom_63 rfl (lv_at hl 1 rfl) ?_
        have i_3 := h.1
        have h := h.2
        refine x_iald hx hb hG hw xb22 i_3 dX4_walkFrom_64 ?_
        refine lv_topi (fun x3_4 ex3_4 => ?_)
        have h := h x3_4 ex3_4
        refine lv_istore_n (lv' := [(3, .int x3_4), (0, .ref (xad G 20)), (2, .int x2)]) hx hb dX4_walkFrom_65 rfl hl (by decide) rfl (fun ls hl => ?_)
        refine lv_iconst (v := 0) hx hb dX4_walkFrom_66 (by decide) ?_
        refine lv_istore (lv' := [(4, .int (0 : Int32)), (3, .int x3_4), (0, .ref (xad G 20)), (2, .int x2)]) hx hb dX4_walkFrom_67 hl (by decide) rfl (fun ls hl => ?_)
        obtain ⟨n9, h⟩ := h
        exact t_X4_walkFrom_69 C0 ih n9 (0 : Int32) A L _ _ _ hw (lv_sub hl [2, 3, 1, 0] rfl) h
set_option maxHeartbeats 4000000 in
set_option maxRecDepth 100000 in
theorem t_X4_walkFrom_12 (C0 : xC p s m args meth c G cX4_walkFrom none wsX4_walkFrom RX4 5) {post : xM → xL → Prop} {x1 : Int32} : ∀ (n : Nat) (x2 : Int32) (A : xM) (L : xL) (H : Heap) (locs : List Loc) (ls : Array Slot), xW G s.heap A L H locs → lv_has ls 5 [(0, .ref (xad G 20)), (1, .int x1), (2, .int x2)] → v_X4_walkFrom_12 x1 post n x2 A L → W p l e rX4_walkFrom s m args below meth c H locs 0 0 (MQ below (xQv G post) args s 0 0 (xAf G)) (F0 m 12 ls []) := by
  obtain ⟨hx, hb, hr, hts, hown, hml, hlocks, hG⟩ := id C0
  intro n
  induction n with
  | zero => intro x2 A L H locs ls hw hl h; exact (show False from h).elim
  | succ n ih =>
    intro x2 A L H locs ls hw hl h
    unfold v_X4_walkFrom_12 at h
    refine lv_iload_n hx hb dX4_walkFrom_12 rfl (lv_at hl 2 rfl) ?_
    refine lv_aload_n hx hb dX4_walkFrom_13 rfl (lv_at hl 0 rfl) ?_
    refine x_get (C := RX4) (T := TX4) (N := 4) hx hb hts inX4_walkFrom_X4 hown hG hw xO20 rfl 0 (by decide) (hts (.fieldLink RX4 9 "SixNumbers$Signs" "steps" "[I") (List.mem_of_getElem? (i := 3) rfl)) (fun _ h9 => h9) (v := .ref (xad G 21)) rfl dX4_walkFrom_14 ?_
    refine x_alenI hx hb hG hw xb21 dX4_walkFrom_17 ?_
    refine lv_icmp_ge (tgt := 34) hx hb dX4_walkFrom_18 (by decide) (fun c_1 => ?_) (fun c_1 => ?_)
    · have h := h.1 c_1
      refine lv_aload_n hx hb dX4_walkFrom_34 rfl (lv_at hl 0 rfl) ?_
      refine lv_iload_n hx hb dX4_walkFrom_35 rfl (lv_at hl 1 rfl) ?_
      refine lv_iconst (v := 0) hx hb dX4_walkFrom_36 (by decide) ?_
      refine x_callv hG hw (va_runV (As := [.int x1, .int (0 : Int32)]) (rest := []) ⟨hx, hb, hml, hown, hts⟩ (c_X4_arrive (l := l) (G := G) h) (cwV 2 hts gX4_walkFrom_X4_arrive rfl rfl rfl (by decide +kernel) ⟨Nat.le_of_ble_eq_true rfl, Nat.le_of_ble_eq_true rfl⟩) (x_preV hG hw xO20 rfl) rfl rfl hl.1 rfl (lv_room (Nat.le_of_ble_eq_true rfl)) dX4_walkFrom_37 ⟨Nat.le_of_ble_eq_true rfl, Nat.le_of_ble_eq_true rfl⟩) (fun A_2 L_3 H locs hw h => ?_)
      refine lv_iconst (v := 0) hx hb dX4_walkFrom_40 (by decide) ?_
      refine lv_istore_n (lv' := [(2, .int (0 : Int32)), (0, .ref (xad G 20)), (1, .int x1)]) hx hb dX4_walkFrom_41 rfl hl (by decide) rfl (fun ls hl => ?_)
      obtain ⟨n9, h⟩ := h
      exact t_X4_walkFrom_42 C0 n9 (0 : Int32) A_2 L_3 _ _ _ hw (lv_sub hl [1, 0] rfl) h
    · have h := h.2 c_1
      refine lv_aload_n hx hb dX4_walkFrom_21 rfl (lv_at hl 0 rfl) ?_
      refine x_get (C := RX4) (T := TX4) (N := 4) hx hb hts inX4_walkFrom_X4 hown hG hw xO20 rfl 0 (by decide) (hts (.fieldLink RX4 9 "SixNumbers$Signs" "steps" "[I") (List.mem_of_getElem? (i := 3) rfl)) (fun _ h9 => h9) (v := .ref (xad G 21)) rfl dX4_walkFrom_22 ?_
      refine lv_iload_n hx hb dX4_walkFrom_25 rfl (lv_at hl 2 rfl) ?_
      refine lv_iconst (v := (-1)) hx hb dX4_walkFrom_26 (by decide) ?_
      have i_4 := h.1
      have h := h.2
      refine x_iast hx hb hG hw xb21 i_4 dX4_walkFrom_27 (fun A_5 H locs eA_5 hw => ?_)
      have h := h A_5 eA_5
      obtain ⟨x2_6, ex2_6⟩ : ∃ y : Int32, y = x2 + (1 : Int32) := ⟨_, rfl⟩
      have h := h x2_6 ex2_6
      refine lv_iinc (v := x2_6) (lv' := [(2, .int x2_6), (0, .ref (xad G 20)), (1, .int x1)]) hx hb dX4_walkFrom_28 hl (k := 2) rfl (by rw [ex2_6]; rfl) (by decide) rfl (fun ls hl => ?_)
      refine lv_goto (tgt := 12) hx hb dX4_walkFrom_31 (by decide) ?_
      exact ih x2_6 A_5 L _ _ _ hw (lv_sub hl [1, 2, 0] rfl) h
set_option maxHeartbeats 4000000 in
set_option maxRecDepth 100000 in
theorem t_X4_walkFrom_0 (C0 : xC p s m args meth c G cX4_walkFrom none wsX4_walkFrom RX4 5) {post : xM → xL → Prop} {x1 : Int32} {A : xM} {L : xL} {H : Heap} {locs : List Loc} {ls : Array Slot} (hw : xW G s.heap A L H locs) (hl : lv_has ls 5 [(0, .ref (xad G 20)), (1, .int x1)]) (h : v_X4_walkFrom x1 A L post) : W p l e rX4_walkFrom s m args below meth c H locs 0 0 (MQ below (xQv G post) args s 0 0 (xAf G)) (F0 m 0 ls []) := by
  obtain ⟨hx, hb, hr, hts, hown, hml, hlocks, hG⟩ := id C0
  unfold v_X4_walkFrom at h
  refine lv_aload_n hx hb dX4_walkFrom_0 rfl (lv_at hl 0 rfl) ?_
  refine lv_iload_n hx hb dX4_walkFrom_1 rfl (lv_at hl 1 rfl) ?_
  refine x_put (C := RX4) (T := TX4) (N := 4) hx hb hts inX4_walkFrom_X4 tyX4 tyX4_ok nmX4 hown hG hw xO20 rfl 3 (by decide) (hts (.fieldLink RX4 22 "SixNumbers$Signs" "from" "I") (List.mem_of_getElem? (i := 1) rfl)) (fun _ h9 => h9) rfl (ty := .int) (by decide +kernel) rfl rfl (Nat.le_of_ble_eq_true rfl) rfl dX4_walkFrom_2 (fun A_1 H locs eA_1 hw => ?_)
  have h := h A_1 eA_1
  refine lv_aload_n hx hb dX4_walkFrom_5 rfl (lv_at hl 0 rfl) ?_
  refine lv_iconst (v := 0) hx hb dX4_walkFrom_6 (by decide) ?_
  refine x_put (C := RX4) (T := TX4) (N := 4) hx hb hts inX4_walkFrom_X4 tyX4 tyX4_ok nmX4 hown hG hw xO20 rfl 2 (by decide) (hts (.fieldLink RX4 18 "SixNumbers$Signs" "waiting" "I") (List.mem_of_getElem? (i := 2) rfl)) (fun _ h9 => h9) rfl (ty := .int) (by decide +kernel) rfl rfl (Nat.le_of_ble_eq_true rfl) rfl dX4_walkFrom_7 (fun A_2 H locs eA_2 hw => ?_)
  have h := h A_2 eA_2
  refine lv_iconst (v := 0) hx hb dX4_walkFrom_10 (by decide) ?_
  refine lv_istore_n (lv' := [(2, .int (0 : Int32)), (0, .ref (xad G 20)), (1, .int x1)]) hx hb dX4_walkFrom_11 rfl hl (by decide) rfl (fun ls hl => ?_)
  obtain ⟨n9, h⟩ := h
  exact t_X4_walkFrom_12 C0 n9 (0 : Int32) A_2 L _ _ _ hw (lv_sub hl [1, 2, 0] rfl) h
theorem c_X4_walkFrom {l : Launch} {G : xGt} {x1 : Int32} {A : xM} {L : xL} {post : xM → xL → Prop} (h : v_X4_walkFrom x1 A L post) : Met l yX4_walkFrom wsX4_walkFrom rX4_walkFrom (va_Pc [.ref (xad G 20), .int x1] (xPre G A L)) (xQv G post) 0 0 (xAf G) :=
  x_met RX4 rfl (by decide) rfl (Nat.le_of_ble_eq_true rfl) (fun p e s m below meth c ls C0 hw hl => t_X4_walkFrom_0 C0 hw hl h)
end MECH
abbrev rX4_stepsBetween : Room := { frames := 3, cells := 0, slots := 0, locals := 68 }
theorem inX4_stepsBetween_X4 : ∀ w ∈ wsX40, w ∈ wsX4_stepsBetween := fun w h => List.mem_cons_of_mem _ (List.mem_append_right _ h)
def v_X4_stepsBetween_26 (x2 : Int32) (A : xM) (L : xL) (post : Int32 → xM → xL → Prop) : Prop := vp_in x2 5041 ∧ (post (A 21 x2.toNatClampNeg) A L)
def v_X4_stepsBetween (x1 : Int32) (x2 : Int32) (A : xM) (L : xL) (post : Int32 → xM → xL → Prop) : Prop := v_X5_isOutside x2 (0 : Int32) (5040 : Int32) (fun (r_1 : Int32) => ((r_1 = 0 → ((x1 = (A 20 3) → (v_X4_stepsBetween_26 x2 A L post)) ∧ (¬ x1 = (A 20 3) → (v_X4_walkFrom x1 A L (fun (A_4 : xM) (L_5 : xL) => (v_X4_stepsBetween_26 x2 A_4 L_5 post)))))) ∧ (¬ r_1 = 0 → (post (-1 : Int32) A L))))
section MECH
variable {p : Program} {l : Launch} {e : Env} {s : State} {m : MethodId} {args : Array Value} {below : List Frame} {meth : Method} {c : Code} {G : xGt}
set_option maxHeartbeats 4000000 in
set_option maxRecDepth 100000 in
theorem t_X4_stepsBetween_26 (C0 : xC p s m args meth c G cX4_stepsBetween (some .int) wsX4_stepsBetween RX4 3) {post : Int32 → xM → xL → Prop} {x2 : Int32} {A : xM} {L : xL} {H : Heap} {locs : List Loc} {ls : Array Slot} (hw : xW G s.heap A L H locs) (hl : lv_has ls 3 [(0, .ref (xad G 20)), (2, .int x2)]) (h : v_X4_stepsBetween_26 x2 A L post) : W p l e rX4_stepsBetween s m args below meth c H locs 0 0 (MQ below (xQi G post) args s 0 0 (xAf G)) (F0 m 26 ls []) := by
  obtain ⟨hx, hb, hr, hts, hown, hml, hlocks, hG⟩ := id C0
  unfold v_X4_stepsBetween_26 at h
  refine lv_aload_n hx hb dX4_stepsBetween_26 rfl (lv_at hl 0 rfl) ?_
  refine x_get (C := RX4) (T := TX4) (N := 4) hx hb hts inX4_stepsBetween_X4 hown hG hw xO20 rfl 0 (by decide) (hts (.fieldLink RX4 9 "SixNumbers$Signs" "steps" "[I") (List.mem_of_getElem? (i := 2) rfl)) (fun _ h9 => h9) (v := .ref (xad G 21)) rfl dX4_stepsBetween_27 ?_
  refine lv_iload_n hx hb dX4_stepsBetween_30 rfl (lv_at hl 1 rfl) ?_
  have i_1 := h.1
  have h := h.2
  refine x_iald hx hb hG hw xb21 i_1 dX4_stepsBetween_31 ?_
  exact x_iret hx hb hr hlocks hG hw h dX4_stepsBetween_32
set_option maxHeartbeats 4000000 in
set_option maxRecDepth 100000 in
theorem t_X4_stepsBetween_0 (C0 : xC p s m args meth c G cX4_stepsBetween (some .int) wsX4_stepsBetween RX4 3) {post : Int32 → xM → xL → Prop} {x1 : Int32} {x2 : Int32} {A : xM} {L : xL} {H : Heap} {locs : List Loc} {ls : Array Slot} (hw : xW G s.heap A L H locs) (hl : lv_has ls 3 [(0, .ref (xad G 20)), (1, .int x1), (2, .int x2)]) (h : v_X4_stepsBetween x1 x2 A L post) : W p l e rX4_stepsBetween s m args below meth c H locs 0 0 (MQ below (xQi G post) args s 0 0 (xAf G)) (F0 m 0 ls []) := by
  obtain ⟨hx, hb, hr, hts, hown, hml, hlocks, hG⟩ := id C0
  unfold v_X4_stepsBetween at h
  refine lv_iload_n hx hb dX4_stepsBetween_0 rfl (lv_at hl 2 rfl) ?_
  refine lv_iconst (v := 0) hx hb dX4_stepsBetween_1 (by decide) ?_
  refine lv_sipush (v := 5040) hx hb dX4_stepsBetween_2 (by decide) ?_
  refine x_calli hG hw (va_runSN (As := [.int x2, .int (0 : Int32), .int (5040 : Int32)]) (rest := []) ⟨hx, hb, hml, hown, hts⟩ (c_X5_isOutside (l := l) (G := G) h) ⟨va_cnB 3 hts ggX4_stepsBetween_X5_isOutside rfl rfl rfl (hG.2.2.2.1 _ (List.mem_of_getElem? (i := 10) rfl)) (hts _ (List.mem_of_getElem? (i := 4) rfl)) (by decide +kernel) ⟨Nat.le_of_ble_eq_true rfl, Nat.le_of_ble_eq_true rfl⟩, (hts _ (List.mem_of_getElem? (i := 3) rfl)), trivial⟩ (x_preS hG hw) rfl rfl hl.1 rfl (lv_room (Nat.le_of_ble_eq_true rfl)) dX4_stepsBetween_5 ⟨Nat.le_of_ble_eq_true rfl, Nat.le_of_ble_eq_true rfl⟩) (fun r_1 A9 L9 H locs hw h => ?_)
  rw [h.2.1, h.2.2] at hw
  have h := h.1
  refine lv_if_eq (tgt := 13) hx hb dX4_stepsBetween_8 (by decide) (fun c_2 => ?_) (fun c_2 => ?_)
  · have h := h.1 c_2
    refine lv_iload_n hx hb dX4_stepsBetween_13 rfl (lv_at hl 1 rfl) ?_
    refine lv_aload_n hx hb dX4_stepsBetween_14 rfl (lv_at hl 0 rfl) ?_
    refine x_get (C := RX4) (T := TX4) (N := 4) hx hb hts inX4_stepsBetween_X4 hown hG hw xO20 rfl 3 (by decide) (hts (.fieldLink RX4 22 "SixNumbers$Signs" "from" "I") (List.mem_of_getElem? (i := 1) rfl)) (fun _ h9 => h9) (v := .int (A 20 3)) rfl dX4_stepsBetween_15 ?_
    refine lv_icmp_eq (tgt := 26) hx hb dX4_stepsBetween_18 (by decide) (fun c_3 => ?_) (fun c_3 => ?_)
    · have h := h.1 c_3
      exact t_X4_stepsBetween_26 C0 hw (lv_sub hl [0, 2] rfl) h
    · have h := h.2 c_3
      refine lv_aload_n hx hb dX4_stepsBetween_21 rfl (lv_at hl 0 rfl) ?_
      refine lv_iload_n hx hb dX4_stepsBetween_22 rfl (lv_at hl 1 rfl) ?_
      refine x_callv hG hw (va_runV (As := [.int x1]) (rest := []) ⟨hx, hb, hml, hown, hts⟩ (c_X4_walkFrom (l := l) (G := G) h) (cwV 1 hts gX4_stepsBetween_X4_walkFrom rfl rfl rfl (by decide +kernel) ⟨Nat.le_of_ble_eq_true rfl, Nat.le_of_ble_eq_true rfl⟩) (x_preV hG hw xO20 rfl) rfl rfl hl.1 rfl (lv_room (Nat.le_of_ble_eq_true rfl)) dX4_stepsBetween_23 ⟨Nat.le_of_ble_eq_true rfl, Nat.le_of_ble_eq_true rfl⟩) (fun A_4 L_5 H locs hw h => ?_)
      exact t_X4_stepsBetween_26 C0 hw (lv_sub hl [0, 2] rfl) h
  · have h := h.2 c_2
    refine lv_iconst (v := (-1)) hx hb dX4_stepsBetween_11 (by decide) ?_
    exact x_iret hx hb hr hlocks hG hw h dX4_stepsBetween_12
theorem c_X4_stepsBetween {l : Launch} {G : xGt} {x1 : Int32} {x2 : Int32} {A : xM} {L : xL} {post : Int32 → xM → xL → Prop} (h : v_X4_stepsBetween x1 x2 A L post) : Met l yX4_stepsBetween wsX4_stepsBetween rX4_stepsBetween (va_Pc [.ref (xad G 20), .int x1, .int x2] (xPre G A L)) (xQi G post) 0 0 (xAf G) :=
  x_met RX4 rfl (by decide) rfl (Nat.le_of_ble_eq_true rfl) (fun p e s m below meth c ls C0 hw hl => t_X4_stepsBetween_0 C0 hw hl h)
end MECH
