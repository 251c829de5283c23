abbrev rX5_out : Room := { frames := 1, cells := 0, slots := 0, locals := 21 }
theorem inX5_out_X5 : ∀ w ∈ wsX50, w ∈ wsX5_out := fun w h => List.mem_cons_of_mem _ (List.mem_append_left _ (List.mem_append_right _ h))
def v_X5_out (x1 : Int32) (A : xM) (L : xL) (post : Int32 → Prop) : Prop := v_X2_byteAt x1 A L (fun (r_1 : Int32) => (post r_1))
section MECH
variable {p : Program} {l : Launch} {e : Env} {s : State} {m : MethodId} {args : Array Value} {below : List Frame} {meth : Method} {c : Code} {G : xGt}
set_option maxHeartbeats 4000000 in
set_option maxRecDepth 100000 in
theorem t_X5_out_0 (C0 : xC p s m args meth c G cX5_out (some .int) wsX5_out RX5 2) {post : Int32 → Prop} {x1 : Int32} {A : xM} {L : xL} {H : Heap} {locs : List Loc} {ls : Array Slot} (hw : xW G s.heap A L H locs) (hl : lv_has ls 2 [(0, .ref (xad G 0)), (1, .int x1)]) (h : v_X5_out x1 A L post) : W p l e rX5_out s m args below meth c H locs 0 0 (MQ below (xQi G (xpi A L post)) args s 0 0 (xAf G)) (F0 m 0 ls []) := by
  obtain ⟨hx, hb, hr, hts, hown, hml, hlocks, hG⟩ := id C0
  unfold v_X5_out at h
  refine lv_aload_n hx hb dX5_out_0 rfl (lv_at hl 0 rfl) ?_
  refine x_get (C := RX5) (T := TX5) (N := 6) hx hb hts inX5_out_X5 hown hG hw xO0 rfl 4 (by decide) (hts (.fieldLink RX5 40 "SixNumbers" "bytes" "LSixNumbers$Out;") (List.mem_of_getElem? (i := 1) rfl)) (fun _ h9 => h9) (v := .ref (xad G 18)) rfl dX5_out_1 ?_
  refine lv_iload_n hx hb dX5_out_4 rfl (lv_at hl 1 rfl) ?_
  refine x_calli hG hw (va_runV (As := [.int x1]) (rest := []) ⟨hx, hb, hml, hown, hts⟩ (c_X2_byteAt (l := l) (G := G) h) (cwV 1 hts gX5_out_X2_byteAt rfl rfl rfl (by decide +kernel) ⟨Nat.le_of_ble_eq_true rfl, Nat.le_of_ble_eq_true rfl⟩) (x_preV hG hw xO18 rfl) rfl rfl hl.1 rfl (lv_room (Nat.le_of_ble_eq_true rfl)) dX5_out_5 ⟨Nat.le_of_ble_eq_true rfl, Nat.le_of_ble_eq_true rfl⟩) (fun r_1 A9 L9 H locs hw h => ?_)
  rw [h.2.1, h.2.2] at hw
  have h := h.1
  exact x_iret hx hb hr hlocks hG hw ⟨h, rfl, rfl⟩ dX5_out_8
theorem c_X5_out {l : Launch} {G : xGt} {x1 : Int32} {A : xM} {L : xL} {post : Int32 → Prop} (h : v_X5_out x1 A L post) : Met l yX5_out wsX5_out rX5_out (va_Pc [.ref (xad G 0), .int x1] (xPre G A L)) (xQi G (xpi A L post)) 0 0 (xAf G) :=
  x_met RX5 rfl (by decide) rfl (Nat.le_of_ble_eq_true rfl) (fun p e s m below meth c ls C0 hw hl => t_X5_out_0 C0 hw hl h)
end MECH
abbrev rX5_card : Room := { frames := 2, cells := 0, slots := 0, locals := 42 }
theorem inX5_card_X0 : ∀ w ∈ wsX00, w ∈ wsX5_card := fun w h => List.mem_cons_of_mem _ (List.mem_append_right _ h)
theorem inX5_card_X5 : ∀ w ∈ wsX50, w ∈ wsX5_card := fun w h => List.mem_cons_of_mem _ (List.mem_append_left _ (List.mem_append_right _ h))
def v_X5_card (x1 : Int32) (A : xM) (L : xL) (post : Int32 → xM → xL → Prop) : Prop := v_X5_isOutside x1 (1 : Int32) (100 : Int32) (fun (r_1 : Int32) => ((r_1 = 0 → (((A 14 2) < (10 : Int32) → (v_X0_put x1 A L (fun (r_4 : Int32) (A_5 : xM) (L_6 : xL) => (post r_4 A_5 L_6)))) ∧ (¬ (A 14 2) < (10 : Int32) → (post (-1004 : Int32) A L)))) ∧ (¬ r_1 = 0 → (post (-1002 : Int32) A L))))
section MECH
variable {p : Program} {l : Launch} {e : Env} {s : State} {m : MethodId} {args : Array Value} {below : List Frame} {meth : Method} {c : Code} {G : xGt}
set_option maxHeartbeats 4000000 in
set_option maxRecDepth 100000 in
theorem t_X5_card_0 (C0 : xC p s m args meth c G cX5_card (some .int) wsX5_card RX5 2) {post : Int32 → xM → xL → Prop} {x1 : Int32} {A : xM} {L : xL} {H : Heap} {locs : List Loc} {ls : Array Slot} (hw : xW G s.heap A L H locs) (hl : lv_has ls 2 [(0, .ref (xad G 0)), (1, .int x1)]) (h : v_X5_card x1 A L post) : W p l e rX5_card s m args below meth c H locs 0 0 (MQ below (xQi G post) args s 0 0 (xAf G)) (F0 m 0 ls []) := by
  obtain ⟨hx, hb, hr, hts, hown, hml, hlocks, hG⟩ := id C0
  unfold v_X5_card at h
  refine lv_iload_n hx hb dX5_card_0 rfl (lv_at hl 1 rfl) ?_
  refine lv_iconst (v := 1) hx hb dX5_card_1 (by decide) ?_
  refine lv_bipush (v := 100) hx hb dX5_card_2 (by decide) ?_
  refine x_calli hG hw (va_runS (As := [.int x1, .int (1 : Int32), .int (100 : Int32)]) (rest := []) ⟨hx, hb, hml, hown, hts⟩ (c_X5_isOutside (l := l) (G := G) h) (va_cwS 3 hts gX5_card_X5_isOutside rfl rfl rfl (by decide +kernel) ⟨Nat.le_of_ble_eq_true rfl, Nat.le_of_ble_eq_true rfl⟩) (x_preS hG hw) rfl rfl hl.1 rfl (lv_room (Nat.le_of_ble_eq_true rfl)) dX5_card_4 ⟨Nat.le_of_ble_eq_true rfl, Nat.le_of_ble_eq_true rfl⟩) (fun r_1 A9 L9 H locs hw h => ?_)
  rw [h.2.1, h.2.2] at hw
  have h := h.1
  refine lv_if_eq (tgt := 14) hx hb dX5_card_7 (by decide) (fun c_2 => ?_) (fun c_2 => ?_)
  · have h := h.1 c_2
    refine lv_aload_n hx hb dX5_card_14 rfl (lv_at hl 0 rfl) ?_
    refine x_get (C := RX5) (T := TX5) (N := 6) hx hb hts inX5_card_X5 hown hG hw xO0 rfl 3 (by decide) (hts (.fieldLink RX5 33 "SixNumbers" "box" "LSixNumbers$Box;") (List.mem_of_getElem? (i := 1) rfl)) (fun _ h9 => h9) (v := .ref (xad G 14)) rfl dX5_card_15 ?_
    refine x_getN (C := RX0) (T := TX0) (N := 6) hx hb hts inX5_card_X0 hown hG hw xO14 rfl 2 (by decide) (va_Nw.use rfl (hG.2.2.2.1 _ (List.mem_of_getElem? (i := 4) rfl))) (fun _ h9 => h9) (v := .int (A 14 2)) rfl dX5_card_18 ?_
    refine lv_bipush (v := 10) hx hb dX5_card_21 (by decide) ?_
    refine lv_icmp_lt (tgt := 30) hx hb dX5_card_23 (by decide) (fun c_3 => ?_) (fun c_3 => ?_)
    · have h := h.1 c_3
      refine lv_aload_n hx hb dX5_card_30 rfl (lv_at hl 0 rfl) ?_
      refine x_get (C := RX5) (T := TX5) (N := 6) hx hb hts inX5_card_X5 hown hG hw xO0 rfl 3 (by decide) (hts (.fieldLink RX5 33 "SixNumbers" "box" "LSixNumbers$Box;") (List.mem_of_getElem? (i := 1) rfl)) (fun _ h9 => h9) (v := .ref (xad G 14)) rfl dX5_card_31 ?_
      refine lv_iload_n hx hb dX5_card_34 rfl (lv_at hl 1 rfl) ?_
      refine x_calli hG hw (va_runV (As := [.int x1]) (rest := []) ⟨hx, hb, hml, hown, hts⟩ (c_X0_put (l := l) (G := G) h) (cwV 1 hts gX5_card_X0_put rfl rfl rfl (by decide +kernel) ⟨Nat.le_of_ble_eq_true rfl, Nat.le_of_ble_eq_true rfl⟩) (x_preV hG hw xO14 rfl) rfl rfl hl.1 rfl (lv_room (Nat.le_of_ble_eq_true rfl)) dX5_card_35 ⟨Nat.le_of_ble_eq_true rfl, Nat.le_of_ble_eq_true rfl⟩) (fun r_4 A_5 L_6 H locs hw h => ?_)
      exact x_iret hx hb hr hlocks hG hw h dX5_card_38
    · have h := h.2 c_3
      refine lv_sipush (v := (-1004)) hx hb dX5_card_26 (by decide) ?_
      exact x_iret hx hb hr hlocks hG hw h dX5_card_29
  · have h := h.2 c_2
    refine lv_sipush (v := (-1002)) hx hb dX5_card_10 (by decide) ?_
    exact x_iret hx hb hr hlocks hG hw h dX5_card_13
theorem c_X5_card {l : Launch} {G : xGt} {x1 : Int32} {A : xM} {L : xL} {post : Int32 → xM → xL → Prop} (h : v_X5_card x1 A L post) : Met l yX5_card wsX5_card rX5_card (va_Pc [.ref (xad G 0), .int x1] (xPre G A L)) (xQi G post) 0 0 (xAf G) :=
  x_met RX5 rfl (by decide) rfl (Nat.le_of_ble_eq_true rfl) (fun p e s m below meth c ls C0 hw hl => t_X5_card_0 C0 hw hl h)
end MECH
abbrev rX5_empty : Room := { frames := 2, cells := 0, slots := 0, locals := 41 }
theorem inX5_empty_X5 : ∀ w ∈ wsX50, w ∈ wsX5_empty := fun w h => List.mem_cons_of_mem _ (List.mem_append_left _ (List.mem_append_right _ h))
def v_X5_empty (A : xM) (L : xL) (post : Int32 → xM → xL → Prop) : Prop := v_X0_clear A L (fun (r_1 : Int32) (A_2 : xM) (L_3 : xL) => (post r_1 A_2 L_3))
section MECH
variable {p : Program} {l : Launch} {e : Env} {s : State} {m : MethodId} {args : Array Value} {below : List Frame} {meth : Method} {c : Code} {G : xGt}
set_option maxHeartbeats 4000000 in
set_option maxRecDepth 100000 in
theorem t_X5_empty_0 (C0 : xC p s m args meth c G cX5_empty (some .int) wsX5_empty RX5 1) {post : Int32 → xM → xL → Prop} {A : xM} {L : xL} {H : Heap} {locs : List Loc} {ls : Array Slot} (hw : xW G s.heap A L H locs) (hl : lv_has ls 1 [(0, .ref (xad G 0))]) (h : v_X5_empty A L post) : W p l e rX5_empty s m args below meth c H locs 0 0 (MQ below (xQi G post) args s 0 0 (xAf G)) (F0 m 0 ls []) := by
  obtain ⟨hx, hb, hr, hts, hown, hml, hlocks, hG⟩ := id C0
  unfold v_X5_empty at h
  refine lv_aload_n hx hb dX5_empty_0 rfl (lv_at hl 0 rfl) ?_
  refine x_get (C := RX5) (T := TX5) (N := 6) hx hb hts inX5_empty_X5 hown hG hw xO0 rfl 3 (by decide) (hts (.fieldLink RX5 33 "SixNumbers" "box" "LSixNumbers$Box;") (List.mem_of_getElem? (i := 1) rfl)) (fun _ h9 => h9) (v := .ref (xad G 14)) rfl dX5_empty_1 ?_
  refine x_calli hG hw (va_runV (As := []) (rest := []) ⟨hx, hb, hml, hown, hts⟩ (c_X0_clear (l := l) (G := G) h) (cwV 0 hts gX5_empty_X0_clear rfl rfl rfl (by decide +kernel) ⟨Nat.le_of_ble_eq_true rfl, Nat.le_of_ble_eq_true rfl⟩) (x_preV hG hw xO14 rfl) rfl rfl hl.1 rfl (lv_room (Nat.le_of_ble_eq_true rfl)) dX5_empty_4 ⟨Nat.le_of_ble_eq_true rfl, Nat.le_of_ble_eq_true rfl⟩) (fun r_1 A_2 L_3 H locs hw h => ?_)
  exact x_iret hx hb hr hlocks hG hw h dX5_empty_7
theorem c_X5_empty {l : Launch} {G : xGt} {A : xM} {L : xL} {post : Int32 → xM → xL → Prop} (h : v_X5_empty A L post) : Met l yX5_empty wsX5_empty rX5_empty (va_Pc [.ref (xad G 0)] (xPre G A L)) (xQi G post) 0 0 (xAf G) :=
  x_met RX5 rfl (by decide) rfl (Nat.le_of_ble_eq_true rfl) (fun p e s m below meth c ls C0 hw hl => t_X5_empty_0 C0 hw hl h)
end MECH
abbrev rX5_greatestCommonDivisor : Room := { frames := 1, cells := 0, slots := 0, locals := 24 }
def v_X5_greatestCommonDivisor_8 (x0 : Int32) (x1 : Int32) (post : Int32 → Prop) : Nat → Int32 → Int32 → Prop
  | 0, _, _ => False
  | n + 1, x2, x3 => (x0 < x3 → (post x2)) ∧ (¬ x0 < x3 → (¬ x3 = 0 ∧ ((¬ (x0 - x0 / x3 * x3) = 0 → (∀ x3_4 : Int32, x3_4 = x3 + (1 : Int32) → (v_X5_greatestCommonDivisor_8 x0 x1 post n x2 x3_4))) ∧ ((x0 - x0 / x3 * x3) = 0 → (¬ x3 = 0 ∧ ((¬ (x1 - x1 / x3 * x3) = 0 → (∀ x3_7 : Int32, x3_7 = x3 + (1 : Int32) → (v_X5_greatestCommonDivisor_8 x0 x1 post n x2 x3_7))) ∧ ((x1 - x1 / x3 * x3) = 0 → (∀ x3_8 : Int32, x3_8 = x3 + (1 : Int32) → (v_X5_greatestCommonDivisor_8 x0 x1 post n x3 x3_8)))))))))
def v_X5_greatestCommonDivisor (x0 : Int32) (x1 : Int32) (post : Int32 → Prop) : Prop := ∀ x2_1 : Int32, x2_1 = (if (1 : Int32) < x0 then (1 : Int32) else x0) → (∃ k9 : Nat, v_X5_greatestCommonDivisor_8 x0 x1 post k9 x2_1 (2 : Int32))
section MECH
variable {p : Program} {l : Launch} {e : Env} {s : State} {m : MethodId} {args : Array Value} {below : List Frame} {meth : Method} {c : Code} {G : xGt}
set_option maxHeartbeats 4000000 in
set_option maxRecDepth 100000 in
theorem t_X5_greatestCommonDivisor_8 (C0 : xC p s m args meth c G cX5_greatestCommonDivisor (some .int) wsX5_greatestCommonDivisor RX5 4) {post : Int32 → Prop} {x0 : Int32} {x1 : Int32} {A : xM} {L : xL} : ∀ (n : Nat) (x2 : Int32) (x3 : Int32) (H : Heap) (locs : List Loc) (ls : Array Slot), xW G s.heap A L H locs → lv_has ls 4 [(0, .int x0), (1, .int x1), (2, .int x2), (3, .int x3)] → v_X5_greatestCommonDivisor_8 x0 x1 post n x2 x3 → W p l e rX5_greatestCommonDivisor s m args below meth c H locs 0 0 (MQ below (xQi G (xpi A L post)) args s 0 0 (xAf G)) (F0 m 8 ls []) := by
  obtain ⟨hx, hb, hr, hts, hown, hml, hlocks, hG⟩ := id C0
  intro n
  induction n with
  | zero => intro x2 x3 H locs ls hw hl h; exact (show False from h).elim
  | succ n ih =>
    intro x2 x3 H locs ls hw hl h
    unfold v_X5_greatestCommonDivisor_8 at h
    refine lv_iload_n hx hb dX5_greatestCommonDivisor_8 rfl (lv_at hl 3 rfl) ?_
    refine lv_iload_n hx hb dX5_greatestCommonDivisor_9 rfl (lv_at hl 0 rfl) ?_
    refine lv_icmp_gt (tgt := 33) hx hb dX5_greatestCommonDivisor_10 (by decide) (fun c_1 => ?_) (fun c_1 => ?_)
    · have h := h.1 c_1
      refine lv_iload_n hx hb dX5_greatestCommonDivisor_33 rfl (lv_at hl 2 rfl) ?_
      exact x_iret hx hb hr hlocks hG hw ⟨h, rfl, rfl⟩ dX5_greatestCommonDivisor_34
    · have h := h.2 c_1
      refine lv_iload_n hx hb dX5_greatestCommonDivisor_13 rfl (lv_at hl 0 rfl) ?_
      refine lv_iload_n hx hb dX5_greatestCommonDivisor_14 rfl (lv_at hl 3 rfl) ?_
      have z_2 := h.1
      have h := h.2
      refine lv_irem hx hb dX5_greatestCommonDivisor_15 z_2 ?_
      refine lv_if_ne (tgt := 27) hx hb dX5_greatestCommonDivisor_16 (by decide) (fun c_3 => ?_) (fun c_3 => ?_)
      · have h := h.1 c_3
        obtain ⟨x3_4, ex3_4⟩ : ∃ y : Int32, y = x3 + (1 : Int32) := ⟨_, rfl⟩
        have h := h x3_4 ex3_4
        refine lv_iinc (v := x3_4) (lv' := [(3, .int x3_4), (0, .int x0), (1, .int x1), (2, .int x2)]) hx hb dX5_greatestCommonDivisor_27 hl (k := 3) rfl (by rw [ex3_4]; rfl) (by decide) rfl (fun ls hl => ?_)
        refine lv_goto (tgt := 8) hx hb dX5_greatestCommonDivisor_30 (by decide) ?_
        exact ih x2 x3_4 _ _ _ hw (lv_sub hl [1, 2, 3, 0] rfl) h
      · have h := h.2 c_3
        refine lv_iload_n hx hb dX5_greatestCommonDivisor_19 rfl (lv_at hl 1 rfl) ?_
        refine lv_iload_n hx hb dX5_greatestCommonDivisor_20 rfl (lv_at hl 3 rfl) ?_
        have z_5 := h.1
        have h := h.2
        refine lv_irem hx hb dX5_greatestCommonDivisor_21 z_5 ?_
        refine lv_if_ne (tgt := 27) hx hb dX5_greatestCommonDivisor_22 (by decide) (fun c_6 => ?_) (fun c_6 => ?_)
        · have h := h.1 c_6
          obtain ⟨x3_7, ex3_7⟩ : ∃ y : Int32, y = x3 + (1 : Int32) := ⟨_, rfl⟩
          have h := h x3_7 ex3_7
          refine lv_iinc (v := x3_7) (lv' := [(3, .int x3_7), (0, .int x0), (1, .int x1), (2, .int x2)]) hx hb dX5_greatestCommonDivisor_27 hl (k := 3) rfl (by rw [ex3_7]; rfl) (by decide) rfl (fun ls hl => ?_)
          refine lv_goto (tgt := 8) hx hb dX5_greatestCommonDivisor_30 (by decide) ?_
          exact ih x2 x3_7 _ _ _ hw (lv_sub hl [1, 2, 3, 0] rfl) h
        · have h := h.2 c_6
          refine lv_iload_n hx hb dX5_greatestCommonDivisor_25 rfl (lv_at hl 3 rfl) ?_
          refine lv_istore_n (lv' := [(2, .int x3), (0, .int x0), (1, .int x1), (3, .int x3)]) hx hb dX5_greatestCommonDivisor_26 rfl hl (by decide) rfl (fun ls hl => ?_)
          obtain ⟨x3_8, ex3_8⟩ : ∃ y : Int32, y = x3 + (1 : Int32) := ⟨_, rfl⟩
          have h := h x3_8 ex3_8
          refine lv_iinc (v := x3_8) (lv' := [(3, .int x3_8), (2, .int x3), (0, .int x0), (1, .int x1)]) hx hb dX5_greatestCommonDivisor_27 hl (k := 3) rfl (by rw [ex3_8]; rfl) (by decide) rfl (fun ls hl => ?_)
          refine lv_goto (tgt := 8) hx hb dX5_greatestCommonDivisor_30 (by decide) ?_
          exact ih x3 x3_8 _ _ _ hw (lv_sub hl [2, 3, 1, 0] rfl) h
set_option maxHeartbeats 4000000 in
set_option maxRecDepth 100000 in
theorem t_X5_greatestCommonDivisor_0 (C0 : xC p s m args meth c G cX5_greatestCommonDivisor (some .int) wsX5_greatestCommonDivisor RX5 4) {post : Int32 → Prop} {x0 : Int32} {x1 : Int32} {A : xM} {L : xL} {H : Heap} {locs : List Loc} {ls : Array Slot} (hw : xW G s.heap A L H locs) (hl : lv_has ls 4 [(0, .int x0), (1, .int x1)]) (h : v_X5_greatestCommonDivisor x0 x1 post) : W p l e rX5_greatestCommonDivisor s m args below meth c H locs 0 0 (MQ below (xQi G (xpi A L post)) args s 0 0 (xAf G)) (F0 m 0 ls []) := by
  obtain ⟨hx, hb, hr, hts, hown, hml, hlocks, hG⟩ := id C0
  unfold v_X5_greatestCommonDivisor at h
  refine lv_iload_n hx hb dX5_greatestCommonDivisor_0 rfl (lv_at hl 0 rfl) ?_
  refine lv_iconst (v := 1) hx hb dX5_greatestCommonDivisor_1 (by decide) ?_
  refine va_mmin hx hb (hml.trans hl.1.symm) hown (hts _ (List.mem_of_getElem? (i := 1) rfl)) (hts _ (List.mem_of_getElem? (i := 2) rfl)) (hts _ (List.mem_of_getElem? (i := 3) rfl)) (hts _ (List.mem_of_getElem? (i := 4) rfl)) (Nat.le_of_ble_eq_true rfl) (Nat.le_of_ble_eq_true rfl) (Nat.le_of_ble_eq_true rfl) (Nat.le_of_ble_eq_true rfl) dX5_greatestCommonDivisor_2 ?_
  refine lv_topi (fun x2_1 ex2_1 => ?_)
  have h := h x2_1 ex2_1
  refine lv_istore_n (lv' := [(2, .int x2_1), (0, .int x0), (1, .int x1)]) hx hb dX5_greatestCommonDivisor_5 rfl hl (by decide) rfl (fun ls hl => ?_)
  refine lv_iconst (v := 2) hx hb dX5_greatestCommonDivisor_6 (by decide) ?_
  refine lv_istore_n (lv' := [(3, .int (2 : Int32)), (2, .int x2_1), (0, .int x0), (1, .int x1)]) hx hb dX5_greatestCommonDivisor_7 rfl hl (by decide) rfl (fun ls hl => ?_)
  obtain ⟨n9, h⟩ := h
  exact t_X5_greatestCommonDivisor_8 C0 n9 x2_1 (2 : Int32) _ _ _ hw (lv_sub hl [2, 3, 1, 0] rfl) h
theorem c_X5_greatestCommonDivisor {l : Launch} {G : xGt} {x0 : Int32} {x1 : Int32} {A : xM} {L : xL} {post : Int32 → Prop} (h : v_X5_greatestCommonDivisor x0 x1 post) : Met l yX5_greatestCommonDivisor wsX5_greatestCommonDivisor rX5_greatestCommonDivisor (va_Pc [.int x0, .int x1] (xPre G A L)) (xQi G (xpi A L post)) 0 0 (xAf G) :=
  x_met RX5 rfl (by decide) rfl (Nat.le_of_ble_eq_true rfl) (fun p e s m below meth c ls C0 hw hl => t_X5_greatestCommonDivisor_0 C0 hw hl h)
end MECH
abbrev rX5_draws : Room := { frames := 6, cells := 0, slots := 0, locals := 148 }
theorem inX5_draws_X5 : ∀ w ∈ wsX50, w ∈ wsX5_draws := fun w h => List.mem_cons_of_mem _ (List.mem_append_left _ (List.mem_append_left _ (List.mem_append_left _ (List.mem_append_right _ h))))
def v_X5_draws (x1 : Int32) (x2 : Int32) (x3 : Int32) (A : xM) (L : xL) (post : Int32 → xM → xL → Prop) : Prop := v_X5_isOutside x1 (1 : Int32) (4 : Int32) (fun (r_1 : Int32) => ((¬ r_1 = 0 → (post (-1002 : Int32) A L)) ∧ (r_1 = 0 → (v_X5_isOutside x2 (1 : Int32) (3000 : Int32) (fun (r_3 : Int32) => ((¬ r_3 = 0 → (post (-1002 : Int32) A L)) ∧ (r_3 = 0 → (v_X5_isOutside x3 (0 : Int32) (3 : Int32) (fun (r_5 : Int32) => ((r_5 = 0 → (v_X0_countDraws x1 A L (fun (A_7 : xM) (L_8 : xL) => (v_X0_drawsOf x1 A_7 L_8 (fun (r_9 : Int32) => (v_X0_drawsReaching x1 x2 A_7 L_8 (fun (r_10 : Int32) => (v_X5_greatestCommonDivisor r_9 r_10 (fun (r_11 : Int32) => ((x3.toInt < 0 ∨ 2 < x3.toInt → ((¬ r_11 = 0 → (¬ r_11 = 0 ∧ (post (r_9 / r_11) A_7 L_8))) ∧ (r_11 = 0 → (post (1 : Int32) A_7 L_8)))) ∧ (x3 = (0 : Int32) → (post r_9 A_7 L_8)) ∧ (x3 = (1 : Int32) → (post r_10 A_7 L_8)) ∧ (x3 = (2 : Int32) → ((¬ r_11 = 0 → (¬ r_11 = 0 ∧ (post (r_10 / r_11) A_7 L_8))) ∧ (r_11 = 0 → (post (0 : Int32) A_7 L_8)))))))))))))) ∧ (¬ r_5 = 0 → (post (-1002 : Int32) A L))))))))))))
section MECH
variable {p : Program} {l : Launch} {e : Env} {s : State} {m : MethodId} {args : Array Value} {below : List Frame} {meth : Method} {c : Code} {G : xGt}
set_option maxHeartbeats 4000000 in
set_option maxRecDepth 100000 in
theorem t_X5_draws_0 (C0 : xC p s m args meth c G cX5_draws (some .int) wsX5_draws RX5 7) {post : Int32 → xM → xL → Prop} {x1 : Int32} {x2 : Int32} {x3 : Int32} {A : xM} {L : xL} {H : Heap} {locs : List Loc} {ls : Array Slot} (hw : xW G s.heap A L H locs) (hl : lv_has ls 7 [(0, .ref (xad G 0)), (1, .int x1), (2, .int x2), (3, .int x3)]) (h : v_X5_draws x1 x2 x3 A L post) : W p l e rX5_draws s m args below meth c H locs 0 0 (MQ below (xQi G post) args s 0 0 (xAf G)) (F0 m 0 ls []) := by
  obtain ⟨hx, hb, hr, hts, hown, hml, hlocks, hG⟩ := id C0
  unfold v_X5_draws at h
  refine lv_iload_n hx hb dX5_draws_0 rfl (lv_at hl 1 rfl) ?_
  refine lv_iconst (v := 1) hx hb dX5_draws_1 (by decide) ?_
  refine lv_iconst (v := 4) hx hb dX5_draws_2 (by decide) ?_
  refine x_calli hG hw (va_runS (As := [.int x1, .int (1 : Int32), .int (4 : Int32)]) (rest := []) ⟨hx, hb, hml, hown, hts⟩ (c_X5_isOutside (l := l) (G := G) h) (va_cwS 3 hts gX5_draws_X5_isOutside rfl rfl rfl (by decide +kernel) ⟨Nat.le_of_ble_eq_true rfl, Nat.le_of_ble_eq_true rfl⟩) (x_preS hG hw) rfl rfl hl.1 rfl (lv_room (Nat.le_of_ble_eq_true rfl)) dX5_draws_3 ⟨Nat.le_of_ble_eq_true rfl, Nat.le_of_ble_eq_true rfl⟩) (fun r_1 A9 L9 H locs hw h => ?_)
  rw [h.2.1, h.2.2] at hw
  have h := h.1
  refine lv_if_ne (tgt := 29) hx hb dX5_draws_6 (by decide) (fun c_2 => ?_) (fun c_2 => ?_)
  · have h := h.1 c_2
    refine lv_sipush (v := (-1002)) hx hb dX5_draws_29 (by decide) ?_
    exact x_iret hx hb hr hlocks hG hw h dX5_draws_32
  · have h := h.2 c_2
    refine lv_iload_n hx hb dX5_draws_9 rfl (lv_at hl 2 rfl) ?_
    refine lv_iconst (v := 1) hx hb dX5_draws_10 (by decide) ?_
    refine lv_sipush (v := 3000) hx hb dX5_draws_11 (by decide) ?_
    refine x_calli hG hw (va_runS (As := [.int x2, .int (1 : Int32), .int (3000 : Int32)]) (rest := []) ⟨hx, hb, hml, hown, hts⟩ (c_X5_isOutside (l := l) (G := G) h) (va_cwS 3 hts gX5_draws_X5_isOutside rfl rfl rfl (by decide +kernel) ⟨Nat.le_of_ble_eq_true rfl, Nat.le_of_ble_eq_true rfl⟩) (x_preS hG hw) rfl rfl hl.1 rfl (lv_room (Nat.le_of_ble_eq_true rfl)) dX5_draws_14 ⟨Nat.le_of_ble_eq_true rfl, Nat.le_of_ble_eq_true rfl⟩) (fun r_3 A9 L9 H locs hw h => ?_)
    rw [h.2.1, h.2.2] at hw
    have h := h.1
    refine lv_if_ne (tgt := 29) hx hb dX5_draws_17 (by decide) (fun c_4 => ?_) (fun c_4 => ?_)
    · have h := h.1 c_4
      refine lv_sipush (v := (-1002)) hx hb dX5_draws_29 (by decide) ?_
      exact x_iret hx hb hr hlocks hG hw h dX5_draws_32
    · have h := h.2 c_4
      refine lv_iload_n hx hb dX5_draws_20 rfl (lv_at hl 3 rfl) ?_
      refine lv_iconst (v := 0) hx hb dX5_draws_21 (by decide) ?_
      refine lv_iconst (v := 3) hx hb dX5_draws_22 (by decide) ?_
      refine x_calli hG hw (va_runS (As := [.int x3, .int (0 : Int32), .int (3 : Int32)]) (rest := []) ⟨hx, hb, hml, hown, hts⟩ (c_X5_isOutside (l := l) (G := G) h) (va_cwS 3 hts gX5_draws_X5_isOutside rfl rfl rfl (by decide +kernel) ⟨Nat.le_of_ble_eq_true rfl, Nat.le_of_ble_eq_true rfl⟩) (x_preS hG hw) rfl rfl hl.1 rfl (lv_room (Nat.le_of_ble_eq_true rfl)) dX5_draws_23 ⟨Nat.le_of_ble_eq_true rfl, Nat.le_of_ble_eq_true rfl⟩) (fun r_5 A9 L9 H locs hw h => ?_)
      rw [h.2.1, h.2.2] at hw
      have h := h.1
      refine lv_if_eq (tgt := 33) hx hb dX5_draws_26 (by decide) (fun c_6 => ?_) (fun c_6 => ?_)
      · have h := h.1 c_6
        refine lv_aload_n hx hb dX5_draws_33 rfl (lv_at hl 0 rfl) ?_
        refine x_get (C := RX5) (T := TX5) (N := 6) hx hb hts inX5_draws_X5 hown hG hw xO0 rfl 3 (by decide) (hts (.fieldLink RX5 33 "SixNumbers" "box" "LSixNumbers$Box;") (List.mem_of_getElem? (i := 1) rfl)) (fun _ h9 => h9) (v := .ref (xad G 14)) rfl dX5_draws_34 ?_
        refine lv_iload_n hx hb dX5_draws_37 rfl (lv_at hl 1 rfl) ?_
        refine x_callv hG hw (va_runV (As := [.int x1]) (rest := []) ⟨hx, hb, hml, hown, hts⟩ (c_X0_countDraws (l := l) (G := G) h) (cwV 1 hts gX5_draws_X0_countDraws rfl rfl rfl (by decide +kernel) ⟨Nat.le_of_ble_eq_true rfl, Nat.le_of_ble_eq_true rfl⟩) (x_preV hG hw xO14 rfl) rfl rfl hl.1 rfl (lv_room (Nat.le_of_ble_eq_true rfl)) dX5_draws_38 ⟨Nat.le_of_ble_eq_true rfl, Nat.le_of_ble_eq_true rfl⟩) (fun A_7 L_8 H locs hw h => ?_)
        refine lv_aload_n hx hb dX5_draws_41 rfl (lv_at hl 0 rfl) ?_
        refine x_get (C := RX5) (T := TX5) (N := 6) hx hb hts inX5_draws_X5 hown hG hw xO0 rfl 3 (by decide) (hts (.fieldLink RX5 33 "SixNumbers" "box" "LSixNumbers$Box;") (List.mem_of_getElem? (i := 1) rfl)) (fun _ h9 => h9) (v := .ref (xad G 14)) rfl dX5_draws_42 ?_
        refine lv_iload_n hx hb dX5_draws_45 rfl (lv_at hl 1 rfl) ?_
        refine x_calli hG hw (va_runV (As := [.int x1]) (rest := []) ⟨hx, hb, hml, hown, hts⟩ (c_X0_drawsOf (l := l) (G := G) h) (cwV 1 hts gX5_draws_X0_drawsOf rfl rfl rfl (by decide +kernel) ⟨Nat.le_of_ble_eq_true rfl, Nat.le_of_ble_eq_true rfl⟩) (x_preV hG hw xO14 rfl) rfl rfl hl.1 rfl (lv_room (Nat.le_of_ble_eq_true rfl)) dX5_draws_46 ⟨Nat.le_of_ble_eq_true rfl, Nat.le_of_ble_eq_true rfl⟩) (fun r_9 A9 L9 H locs hw h => ?_)
        rw [h.2.1, h.2.2] at hw
        have h := h.1
        refine lv_istore (lv' := [(4, .int r_9), (0, .ref (xad G 0)), (1, .int x1), (2, .int x2), (3, .int x3)]) hx hb dX5_draws_49 hl (by decide) rfl (fun ls hl => ?_)
        refine lv_aload_n hx hb dX5_draws_51 rfl (lv_at hl 1 rfl) ?_
        refine x_get (C := RX5) (T := TX5) (N := 6) hx hb hts inX5_draws_X5 hown hG hw xO0 rfl 3 (by decide) (hts (.fieldLink RX5 33 "SixNumbers" "box" "LSixNumbers$Box;") (List.mem_of_getElem? (i := 1) rfl)) (fun _ h9 => h9) (v := .ref (xad G 14)) rfl dX5_draws_52 ?_
        refine lv_iload_n hx hb dX5_draws_55 rfl (lv_at hl 2 rfl) ?_
        refine lv_iload_n hx hb dX5_draws_56 rfl (lv_at hl 3 rfl) ?_
        refine x_calli hG hw (va_runV (As := [.int x1, .int x2]) (rest := []) ⟨hx, hb, hml, hown, hts⟩ (c_X0_drawsReaching (l := l) (G := G) h) (cwV 2 hts gX5_draws_X0_drawsReaching rfl rfl rfl (by decide +kernel) ⟨Nat.le_of_ble_eq_true rfl, Nat.le_of_ble_eq_true rfl⟩) (x_preV hG hw xO14 rfl) rfl rfl hl.1 rfl (lv_room (Nat.le_of_ble_eq_true rfl)) dX5_draws_57 ⟨Nat.le_of_ble_eq_true rfl, Nat.le_of_ble_eq_true rfl⟩) (fun r_10 A9 L9 H locs hw h => ?_)
        rw [h.2.1, h.2.2] at hw
        have h := h.1
        refine lv_istore (lv' := [(5, .int r_10), (4, .int r_9), (0, .ref (xad G 0)), (1, .int x1), (2, .int x2), (3, .int x3)]) hx hb dX5_draws_60 hl (by decide) rfl (fun ls hl => ?_)
        refine lv_iload hx hb dX5_draws_62 (lv_at hl 1 rfl) ?_
        refine lv_iload hx hb dX5_draws_64 (lv_at hl 0 rfl) ?_
        refine x_calli hG hw (va_runS (As := [.int r_9, .int r_10]) (rest := []) ⟨hx, hb, hml, hown, hts⟩ (c_X5_greatestCommonDivisor (l := l) (G := G) h) (va_cwS 2 hts gX5_draws_X5_greatestCommonDivisor rfl rfl rfl (by decide +kernel) ⟨Nat.le_of_ble_eq_true rfl, Nat.le_of_ble_eq_true rfl⟩) (x_preS hG hw) rfl rfl hl.1 rfl (lv_room (Nat.le_of_ble_eq_true rfl)) dX5_draws_66 ⟨Nat.le_of_ble_eq_true rfl, Nat.le_of_ble_eq_true rfl⟩) (fun r_11 A9 L9 H locs hw h => ?_)
        rw [h.2.1, h.2.2] at hw
        have h := h.1
        refine lv_istore (lv' := [(6, .int r_11), (5, .int r_10), (4, .int r_9), (0, .ref (xad G 0)), (1, .int x1), (2, .int x2), (3, .int x3)]) hx hb dX5_draws_69 hl (by decide) rfl (fun ls hl => ?_)
        refine lv_iload_n hx hb dX5_draws_71 rfl (lv_at hl 6 rfl) ?_
        by_cases c_12 : x3.toInt < 0 ∨ 2 < x3.toInt
        · have h := h.1 c_12
          refine lv_tableOut (tgt := 121) hx hb dX5_draws_72 c_12 (by decide) ?_
          refine lv_iload hx hb dX5_draws_121 (lv_at hl 0 rfl) ?_
          refine lv_if_ne (tgt := 130) hx hb dX5_draws_123 (by decide) (fun c_13 => ?_) (fun c_13 => ?_)
          · have h := h.1 c_13
            refine lv_iload hx hb dX5_draws_130 (lv_at hl 2 rfl) ?_
            refine lv_iload hx hb dX5_draws_132 (lv_at hl 0 rfl) ?_
            have z_14 := h.1
            have h := h.2
            refine lv_idiv hx hb dX5_draws_134 z_14 ?_
            exact x_iret hx hb hr hlocks hG hw h dX5_draws_135
          · have h := h.2 c_13
            refine lv_iconst (v := 1) hx hb dX5_draws_126 (by decide) ?_
            refine lv_goto (tgt := 135) hx hb dX5_draws_127 (by decide) ?_
            exact x_iret hx hb hr hlocks hG hw h dX5_draws_135
        · rcases (show x3.toInt = 0 ∨ x3.toInt = 1 ∨ x3.toInt = 2 by omega) with c8 | c8 | c8
          · have c9 : x3 = (0 : Int32) := Int32.toInt_inj.mp (c8.trans (by decide))
            have h := h.2.1 c9
            refine lv_tableIn (tgt := 100) hx hb dX5_draws_72 (by omega) (by omega) (by rw [c8]; rfl) (by decide) ?_
            refine lv_iload hx hb dX5_draws_100 (lv_at hl 2 rfl) ?_
            exact x_iret hx hb hr hlocks hG hw h dX5_draws_102
          · have c9 : x3 = (1 : Int32) := Int32.toInt_inj.mp (c8.trans (by decide))
            have h := h.2.2.1 c9
            refine lv_tableIn (tgt := 103) hx hb dX5_draws_72 (by omega) (by omega) (by rw [c8]; rfl) (by decide) ?_
            refine lv_iload hx hb dX5_draws_103 (lv_at hl 1 rfl) ?_
            exact x_iret hx hb hr hlocks hG hw h dX5_draws_105
          · have c9 : x3 = (2 : Int32) := Int32.toInt_inj.mp (c8.trans (by decide))
            have h := h.2.2.2 c9
            refine lv_tableIn (tgt := 106) hx hb dX5_draws_72 (by omega) (by omega) (by rw [c8]; rfl) (by decide) ?_
            refine lv_iload hx hb dX5_draws_106 (lv_at hl 0 rfl) ?_
            refine lv_if_ne (tgt := 115) hx hb dX5_draws_108 (by decide) (fun c_15 => ?_) (fun c_15 => ?_)
            · have h := h.1 c_15
              refine lv_iload hx hb dX5_draws_115 (lv_at hl 1 rfl) ?_
              refine lv_iload hx hb dX5_draws_117 (lv_at hl 0 rfl) ?_
              have z_16 := h.1
              have h := h.2
              refine lv_idiv hx hb dX5_draws_119 z_16 ?_
              exact x_iret hx hb hr hlocks hG hw h dX5_draws_120
            · have h := h.2 c_15
              refine lv_iconst (v := 0) hx hb dX5_draws_111 (by decide) ?_
              refine lv_goto (tgt := 120) hx hb dX5_draws_112 (by decide) ?_
              exact x_iret hx hb hr hlocks hG hw h dX5_draws_120
      · have h := h.2 c_6
        refine lv_sipush (v := (-1002)) hx hb dX5_draws_29 (by decide) ?_
        exact x_iret hx hb hr hlocks hG hw h dX5_draws_32
theorem c_X5_draws {l : Launch} {G : xGt} {x1 : Int32} {x2 : Int32} {x3 : Int32} {A : xM} {L : xL} {post : Int32 → xM → xL → Prop} (h : v_X5_draws x1 x2 x3 A L post) : Met l yX5_draws wsX5_draws rX5_draws (va_Pc [.ref (xad G 0), .int x1, .int x2, .int x3] (xPre G A L)) (xQi G post) 0 0 (xAf G) :=
  x_met RX5 rfl (by decide) rfl (Nat.le_of_ble_eq_true rfl) (fun p e s m below meth c ls C0 hw hl => t_X5_draws_0 C0 hw hl h)
end MECH
abbrev rX5_most : Room := { frames := 6, cells := 0, slots := 0, locals := 148 }
theorem inX5_most_X5 : ∀ w ∈ wsX50, w ∈ wsX5_most := fun w h => List.mem_cons_of_mem _ (List.mem_append_left _ (List.mem_append_left _ (List.mem_append_left _ (List.mem_append_right _ h))))
def v_X5_most_35 (x1 : Int32) (x2 : Int32) (post : Int32 → xM → xL → Prop) : Nat → Int32 → Int32 → xM → xL → Prop
  | 0, _, _, _, _ => False
  | n + 1, x3, x4, A, L => ((100 : Int32) < x4 → ((¬ x2 = 0 → (v_X0_drawsReaching x1 x3 A L (fun (r_3 : Int32) => (post r_3 A L)))) ∧ (x2 = 0 → (post x3 A L)))) ∧ (¬ (100 : Int32) < x4 → (v_X0_drawsReaching x1 x4 A L (fun (r_4 : Int32) => (v_X0_drawsReaching x1 x3 A L (fun (r_5 : Int32) => ((r_4 ≤ r_5 → (∀ x4_7 : Int32, x4_7 = x4 + (1 : Int32) → (v_X5_most_35 x1 x2 post n x3 x4_7 A L))) ∧ (¬ r_4 ≤ r_5 → (∀ x4_8 : Int32, x4_8 = x4 + (1 : Int32) → (v_X5_most_35 x1 x2 post n x4 x4_8 A L)))))))))
def v_X5_most (x1 : Int32) (x2 : Int32) (A : xM) (L : xL) (post : Int32 → xM → xL → Prop) : Prop := v_X5_isOutside x1 (1 : Int32) (4 : Int32) (fun (r_1 : Int32) => ((¬ r_1 = 0 → (post (-1002 : Int32) A L)) ∧ (r_1 = 0 → (v_X5_isOutside x2 (0 : Int32) (1 : Int32) (fun (r_3 : Int32) => ((r_3 = 0 → (v_X0_countDraws x1 A L (fun (A_5 : xM) (L_6 : xL) => (∃ k9 : Nat, v_X5_most_35 x1 x2 post k9 (1 : Int32) (2 : Int32) A_5 L_6)))) ∧ (¬ r_3 = 0 → (post (-1002 : Int32) A L))))))))
section MECH
variable {p : Program} {l : Launch} {e : Env} {s : State} {m : MethodId} {args : Array Value} {below : List Frame} {meth : Method} {c : Code} {G : xGt}
set_option maxHeartbeats 4000000 in
set_option maxRecDepth 100000 in
theorem t_X5_most_35 (C0 : xC p s m args meth c G cX5_most (some .int) wsX5_most RX5 5) {post : Int32 → xM → xL → Prop} {x1 : Int32} {x2 : Int32} : ∀ (n : Nat) (x3 : Int32) (x4 : Int32) (A : xM) (L : xL) (H : Heap) (locs : List Loc) (ls : Array Slot), xW G s.heap A L H locs → lv_has ls 5 [(0, .ref (xad G 0)), (1, .int x1), (2, .int x2), (3, .int x3), (4, .int x4)] → v_X5_most_35 x1 x2 post n x3 x4 A L → W p l e rX5_most s m args below meth c H locs 0 0 (MQ below (xQi G post) args s 0 0 (xAf G)) (F0 m 35 ls []) := by
  obtain ⟨hx, hb, hr, hts, hown, hml, hlocks, hG⟩ := id C0
  intro n
  induction n with
  | zero => intro x3 x4 A L H locs ls hw hl h; exact (show False from h).elim
  | succ n ih =>
    intro x3 x4 A L H locs ls hw hl h
    unfold v_X5_most_35 at h
    refine lv_iload hx hb dX5_most_35 (lv_at hl 4 rfl) ?_
    refine lv_bipush (v := 100) hx hb dX5_most_37 (by decide) ?_
    refine lv_icmp_gt (tgt := 73) hx hb dX5_most_39 (by decide) (fun c_1 => ?_) (fun c_1 => ?_)
    · have h := h.1 c_1
      refine lv_iload_n hx hb dX5_most_73 rfl (lv_at hl 2 rfl) ?_
      refine lv_if_ne (tgt := 81) hx hb dX5_most_74 (by decide) (fun c_2 => ?_) (fun c_2 => ?_)
      · have h := h.1 c_2
        refine lv_aload_n hx hb dX5_most_81 rfl (lv_at hl 0 rfl) ?_
        refine x_get (C := RX5) (T := TX5) (N := 6) hx hb hts inX5_most_X5 hown hG hw xO0 rfl 3 (by decide) (hts (.fieldLink RX5 33 "SixNumbers" "box" "LSixNumbers$Box;") (List.mem_of_getElem? (i := 1) rfl)) (fun _ h9 => h9) (v := .ref (xad G 14)) rfl dX5_most_82 ?_
        refine lv_iload_n hx hb dX5_most_85 rfl (lv_at hl 1 rfl) ?_
        refine lv_iload_n hx hb dX5_most_86 rfl (lv_at hl 3 rfl) ?_
        refine x_calli hG hw (va_runV (As := [.int x1, .int x3]) (rest := []) ⟨hx, hb, hml, hown, hts⟩ (c_X0_drawsReaching (l := l) (G := G) h) (cwV 2 hts gX5_most_X0_drawsReaching rfl rfl rfl (by decide +kernel) ⟨Nat.le_of_ble_eq_true rfl, Nat.le_of_ble_eq_true rfl⟩) (x_preV hG hw xO14 rfl) rfl rfl hl.1 rfl (lv_room (Nat.le_of_ble_eq_true rfl)) dX5_most_87 ⟨Nat.le_of_ble_eq_true rfl, Nat.le_of_ble_eq_true rfl⟩) (fun r_3 A9 L9 H locs hw h => ?_)
        rw [h.2.1, h.2.2] at hw
        have h := h.1
        exact x_iret hx hb hr hlocks hG hw h dX5_most_90
      · have h := h.2 c_2
        refine lv_iload_n hx hb dX5_most_77 rfl (lv_at hl 3 rfl) ?_
        refine lv_goto (tgt := 90) hx hb dX5_most_78 (by decide) ?_
        exact x_iret hx hb hr hlocks hG hw h dX5_most_90
    · have h := h.2 c_1
      refine lv_aload_n hx hb dX5_most_42 rfl (lv_at hl 0 rfl) ?_
      refine x_get (C := RX5) (T := TX5) (N := 6) hx hb hts inX5_most_X5 hown hG hw xO0 rfl 3 (by decide) (hts (.fieldLink RX5 33 "SixNumbers" "box" "LSixNumbers$Box;") (List.mem_of_getElem? (i := 1) rfl)) (fun _ h9 => h9) (v := .ref (xad G 14)) rfl dX5_most_43 ?_
      refine lv_iload_n hx hb dX5_most_46 rfl (lv_at hl 1 rfl) ?_
      refine lv_iload hx hb dX5_most_47 (lv_at hl 4 rfl) ?_
      refine x_calli hG hw (va_runV (As := [.int x1, .int x4]) (rest := []) ⟨hx, hb, hml, hown, hts⟩ (c_X0_drawsReaching (l := l) (G := G) h) (cwV 2 hts gX5_most_X0_drawsReaching rfl rfl rfl (by decide +kernel) ⟨Nat.le_of_ble_eq_true rfl, Nat.le_of_ble_eq_true rfl⟩) (x_preV hG hw xO14 rfl) rfl rfl hl.1 rfl (lv_room (Nat.le_of_ble_eq_true rfl)) dX5_most_49 ⟨Nat.le_of_ble_eq_true rfl, Nat.le_of_ble_eq_true rfl⟩) (fun r_4 A9 L9 H locs hw h => ?_)
      rw [h.2.1, h.2.2] at hw
      have h := h.1
      refine lv_aload_n hx hb dX5_most_52 rfl (lv_at hl 0 rfl) ?_
      refine x_get (C := RX5) (T := TX5) (N := 6) hx hb hts inX5_most_X5 hown hG hw xO0 rfl 3 (by decide) (hts (.fieldLink RX5 33 "SixNumbers" "box" "LSixNumbers$Box;") (List.mem_of_getElem? (i := 1) rfl)) (fun _ h9 => h9) (v := .ref (xad G 14)) rfl dX5_most_53 ?_
      refine lv_iload_n hx hb dX5_most_56 rfl (lv_at hl 1 rfl) ?_
      refine lv_iload_n hx hb dX5_most_57 rfl (lv_at hl 3 rfl) ?_
      refine x_calli hG hw (va_runV (As := [.int x1, .int x3]) (rest := [.int r_4]) ⟨hx, hb, hml, hown, hts⟩ (c_X0_drawsReaching (l := l) (G := G) h) (cwV 2 hts gX5_most_X0_drawsReaching rfl rfl rfl (by decide +kernel) ⟨Nat.le_of_ble_eq_true rfl, Nat.le_of_ble_eq_true rfl⟩) (x_preV hG hw xO14 rfl) rfl rfl hl.1 rfl (lv_room (Nat.le_of_ble_eq_true rfl)) dX5_most_58 ⟨Nat.le_of_ble_eq_true rfl, Nat.le_of_ble_eq_true rfl⟩) (fun r_5 A9 L9 H locs hw h => ?_)
      rw [h.2.1, h.2.2] at hw
      have h := h.1
      refine lv_icmp_le (tgt := 67) hx hb dX5_most_61 (by decide) (fun c_6 => ?_) (fun c_6 => ?_)
      · have h := h.1 c_6
        obtain ⟨x4_7, ex4_7⟩ : ∃ y : Int32, y = x4 + (1 : Int32) := ⟨_, rfl⟩
        have h := h x4_7 ex4_7
        refine lv_iinc (v := x4_7) (lv' := [(4, .int x4_7), (0, .ref (xad G 0)), (1, .int x1), (2, .int x2), (3, .int x3)]) hx hb dX5_most_67 hl (k := 4) rfl (by rw [ex4_7]; rfl) (by decide) rfl (fun ls hl => ?_)
        refine lv_goto (tgt := 35) hx hb dX5_most_70 (by decide) ?_
        exact ih x3 x4_7 A L _ _ _ hw (lv_sub hl [1, 2, 3, 4, 0] rfl) h
      · have h := h.2 c_6
        refine lv_iload hx hb dX5_most_64 (lv_at hl 4 rfl) ?_
        refine lv_istore_n (lv' := [(3, .int x4), (0, .ref (xad G 0)), (1, .int x1), (2, .int x2), (4, .int x4)]) hx hb dX5_most_66 rfl hl (by decide) rfl (fun ls hl => ?_)
        obtain ⟨x4_8, ex4_8⟩ : ∃ y : Int32, y = x4 + (1 : Int32) := ⟨_, rfl⟩
        have h := h x4_8 ex4_8
        refine lv_iinc (v := x4_8) (lv' := [(4, .int x4_8), (3, .int x4), (0, .ref (xad G 0)), (1, .int x1), (2, .int x2)]) hx hb dX5_most_67 hl (k := 4) rfl (by rw [ex4_8]; rfl) (by decide) rfl (fun ls hl => ?_)
        refine lv_goto (tgt := 35) hx hb dX5_most_70 (by decide) ?_
        exact ih x4 x4_8 A L _ _ _ hw (lv_sub hl [2, 3, 4, 1, 0] rfl) h
set_option maxHeartbeats 4000000 in
set_option maxRecDepth 100000 in
theorem t_X5_most_0 (C0 : xC p s m args meth c G cX5_most (some .int) wsX5_most RX5 5) {post : Int32 → xM → xL → Prop} {x1 : Int32} {x2 : Int32} {A : xM} {L : xL} {H : Heap} {locs : List Loc} {ls : Array Slot} (hw : xW G s.heap A L H locs) (hl : lv_has ls 5 [(0, .ref (xad G 0)), (1, .int x1), (2, .int x2)]) (h : v_X5_most x1 x2 A L post) : W p l e rX5_most s m args below meth c H locs 0 0 (MQ below (xQi G post) args s 0 0 (xAf G)) (F0 m 0 ls []) := by
  obtain ⟨hx, hb, hr, hts, hown, hml, hlocks, hG⟩ := id C0
  unfold v_X5_most at h
  refine lv_iload_n hx hb dX5_most_0 rfl (lv_at hl 1 rfl) ?_
  refine lv_iconst (v := 1) hx hb dX5_most_1 (by decide) ?_
  refine lv_iconst (v := 4) hx hb dX5_most_2 (by decide) ?_
  refine x_calli hG hw (va_runS (As := [.int x1, .int (1 : Int32), .int (4 : Int32)]) (rest := []) ⟨hx, hb, hml, hown, hts⟩ (c_X5_isOutside (l := l) (G := G) h) (va_cwS 3 hts gX5_most_X5_isOutside rfl rfl rfl (by decide +kernel) ⟨Nat.le_of_ble_eq_true rfl, Nat.le_of_ble_eq_true rfl⟩) (x_preS hG hw) rfl rfl hl.1 rfl (lv_room (Nat.le_of_ble_eq_true rfl)) dX5_most_3 ⟨Nat.le_of_ble_eq_true rfl, Nat.le_of_ble_eq_true rfl⟩) (fun r_1 A9 L9 H locs hw h => ?_)
  rw [h.2.1, h.2.2] at hw
  have h := h.1
  refine lv_if_ne (tgt := 18) hx hb dX5_most_6 (by decide) (fun c_2 => ?_) (fun c_2 => ?_)
  · have h := h.1 c_2
    refine lv_sipush (v := (-1002)) hx hb dX5_most_18 (by decide) ?_
    exact x_iret hx hb hr hlocks hG hw h dX5_most_21
  · have h := h.2 c_2
    refine lv_iload_n hx hb dX5_most_9 rfl (lv_at hl 2 rfl) ?_
    refine lv_iconst (v := 0) hx hb dX5_most_10 (by decide) ?_
    refine lv_iconst (v := 1) hx hb dX5_most_11 (by decide) ?_
    refine x_calli hG hw (va_runS (As := [.int x2, .int (0 : Int32), .int (1 : Int32)]) (rest := []) ⟨hx, hb, hml, hown, hts⟩ (c_X5_isOutside (l := l) (G := G) h) (va_cwS 3 hts gX5_most_X5_isOutside rfl rfl rfl (by decide +kernel) ⟨Nat.le_of_ble_eq_true rfl, Nat.le_of_ble_eq_true rfl⟩) (x_preS hG hw) rfl rfl hl.1 rfl (lv_room (Nat.le_of_ble_eq_true rfl)) dX5_most_12 ⟨Nat.le_of_ble_eq_true rfl, Nat.le_of_ble_eq_true rfl⟩) (fun r_3 A9 L9 H locs hw h => ?_)
    rw [h.2.1, h.2.2] at hw
    have h := h.1
    refine lv_if_eq (tgt := 22) hx hb dX5_most_15 (by decide) (fun c_4 => ?_) (fun c_4 => ?_)
    · have h := h.1 c_4
      refine lv_aload_n hx hb dX5_most_22 rfl (lv_at hl 0 rfl) ?_
      refine x_get (C := RX5) (T := TX5) (N := 6) hx hb hts inX5_most_X5 hown hG hw xO0 rfl 3 (by decide) (hts (.fieldLink RX5 33 "SixNumbers" "box" "LSixNumbers$Box;") (List.mem_of_getElem? (i := 1) rfl)) (fun _ h9 => h9) (v := .ref (xad G 14)) rfl dX5_most_23 ?_
      refine lv_iload_n hx hb dX5_most_26 rfl (lv_at hl 1 rfl) ?_
      refine x_callv hG hw (va_runV (As := [.int x1]) (rest := []) ⟨hx, hb, hml, hown, hts⟩ (c_X0_countDraws (l := l) (G := G) h) (cwV 1 hts gX5_most_X0_countDraws rfl rfl rfl (by decide +kernel) ⟨Nat.le_of_ble_eq_true rfl, Nat.le_of_ble_eq_true rfl⟩) (x_preV hG hw xO14 rfl) rfl rfl hl.1 rfl (lv_room (Nat.le_of_ble_eq_true rfl)) dX5_most_27 ⟨Nat.le_of_ble_eq_true rfl, Nat.le_of_ble_eq_true rfl⟩) (fun A_5 L_6 H locs hw h => ?_)
      refine lv_iconst (v := 1) hx hb dX5_most_30 (by decide) ?_
      refine lv_istore_n (lv' := [(3, .int (1 : Int32)), (0, .ref (xad G 0)), (1, .int x1), (2, .int x2)]) hx hb dX5_most_31 rfl hl (by decide) rfl (fun ls hl => ?_)
      refine lv_iconst (v := 2) hx hb dX5_most_32 (by decide) ?_
      refine lv_istore (lv' := [(4, .int (2 : Int32)), (3, .int (1 : Int32)), (0, .ref (xad G 0)), (1, .int x1), (2, .int x2)]) hx hb dX5_most_33 hl (by decide) rfl (fun ls hl => ?_)
      obtain ⟨n9, h⟩ := h
      exact t_X5_most_35 C0 n9 (1 : Int32) (2 : Int32) A_5 L_6 _ _ _ hw (lv_sub hl [2, 3, 4, 1, 0] rfl) h
    · have h := h.2 c_4
      refine lv_sipush (v := (-1002)) hx hb dX5_most_18 (by decide) ?_
      exact x_iret hx hb hr hlocks hG hw h dX5_most_21
theorem c_X5_most {l : Launch} {G : xGt} {x1 : Int32} {x2 : Int32} {A : xM} {L : xL} {post : Int32 → xM → xL → Prop} (h : v_X5_most x1 x2 A L post) : Met l yX5_most wsX5_most rX5_most (va_Pc [.ref (xad G 0), .int x1, .int x2] (xPre G A L)) (xQi G post) 0 0 (xAf G) :=
  x_met RX5 rfl (by decide) rfl (Nat.le_of_ble_eq_true rfl) (fun p e s m below meth c ls C0 hw hl => t_X5_most_0 C0 hw hl h)
end MECH
abbrev rX5_spans : Room := { frames := 4, cells := 0, slots := 0, locals := 102 }
theorem inX5_spans_X5 : ∀ w ∈ wsX50, w ∈ wsX5_spans := fun w h => List.mem_cons_of_mem _ (List.mem_append_left _ (List.mem_append_left _ (List.mem_append_right _ h)))
def v_X5_spans_5 (x1 : Int32) (x2 : Int32) (post : Int32 → xM → xL → Prop) : Nat → Int32 → Int32 → xM → xL → Prop
  | 0, _, _, _, _ => False
  | n + 1, x3, x4, A, L => ((12 : Int32) < x4 → (v_X1_shorten 1 x3 A L (fun (A_2 : xM) (L_3 : xL) => (v_X1_refresh 1 A_2 L_3 (fun (A_4 : xM) (L_5 : xL) => (v_X1_leastNotReached 1 A_4 L_5 (fun (r_6 : Int32) => ((r_6 ≤ x2 → (post (0 : Int32) A_4 L_5)) ∧ (¬ r_6 ≤ x2 → (post (1 : Int32) A_4 L_5)))))))))) ∧ (¬ (12 : Int32) < x4 → (v_X5_isInSpan x1 x4 (fun (r_8 : Int32) => ((r_8 = 0 → (∀ x4_10 : Int32, x4_10 = x4 + (1 : Int32) → (v_X5_spans_5 x1 x2 post n x3 x4_10 A L))) ∧ (¬ r_8 = 0 → (v_X1_place 1 x3 x4 A L (fun (A_11 : xM) (L_12 : xL) => (∀ x3_13 : Int32, x3_13 = x3 + (1 : Int32) → (∀ x4_14 : Int32, x4_14 = x4 + (1 : Int32) → (v_X5_spans_5 x1 x2 post n x3_13 x4_14 A_11 L_12))))))))))
def v_X5_spans (x1 : Int32) (x2 : Int32) (A : xM) (L : xL) (post : Int32 → xM → xL → Prop) : Prop := ∃ k9 : Nat, v_X5_spans_5 x1 x2 post k9 (0 : Int32) (1 : Int32) A L
section MECH
variable {p : Program} {l : Launch} {e : Env} {s : State} {m : MethodId} {args : Array Value} {below : List Frame} {meth : Method} {c : Code} {G : xGt}
set_option maxHeartbeats 4000000 in
set_option maxRecDepth 100000 in
theorem t_X5_spans_5 (C0 : xC p s m args meth c G cX5_spans (some .boolean) wsX5_spans RX5 5) {post : Int32 → xM → xL → Prop} {x1 : Int32} {x2 : Int32} : ∀ (n : Nat) (x3 : Int32) (x4 : Int32) (A : xM) (L : xL) (H : Heap) (locs : List Loc) (ls : Array Slot), xW G s.heap A L H locs → lv_has ls 5 [(0, .ref (xad G 0)), (1, .int x1), (2, .int x2), (3, .int x3), (4, .int x4)] → v_X5_spans_5 x1 x2 post n x3 x4 A L → W p l e rX5_spans s m args below meth c H locs 0 0 (MQ below (xQi G post) args s 0 0 (xAf G)) (F0 m 5 ls []) := by
  obtain ⟨hx, hb, hr, hts, hown, hml, hlocks, hG⟩ := id C0
  intro n
  induction n with
  | zero => intro x3 x4 A L H locs ls hw hl h; exact (show False from h).elim
  | succ n ih =>
    intro x3 x4 A L H locs ls hw hl h
    unfold v_X5_spans_5 at h
    refine lv_iload hx hb dX5_spans_5 (lv_at hl 4 rfl) ?_
    refine lv_bipush (v := 12) hx hb dX5_spans_7 (by decide) ?_
    refine lv_icmp_gt (tgt := 40) hx hb dX5_spans_9 (by decide) (fun c_1 => ?_) (fun c_1 => ?_)
    · have h := h.1 c_1
      refine lv_aload_n hx hb dX5_spans_40 rfl (lv_at hl 0 rfl) ?_
      refine x_get (C := RX5) (T := TX5) (N := 6) hx hb hts inX5_spans_X5 hown hG hw xO0 rfl 2 (by decide) (hts (.fieldLink RX5 25 "SixNumbers" "trial" "LSixNumbers$Heap;") (List.mem_of_getElem? (i := 1) rfl)) (fun _ h9 => h9) (v := .ref (xad G (2 + 6 * 1))) rfl dX5_spans_41 ?_
      refine lv_iload_n hx hb dX5_spans_44 rfl (lv_at hl 3 rfl) ?_
      refine x_callv hG hw (va_runV (As := [.int x3]) (rest := []) ⟨hx, hb, hml, hown, hts⟩ (c_X1_shorten (l := l) (G := G) (show 1 < 2 by decide) h) (cwV 1 hts gX5_spans_X1_shorten rfl rfl rfl (by decide +kernel) ⟨Nat.le_of_ble_eq_true rfl, Nat.le_of_ble_eq_true rfl⟩) (x_preV hG hw (xOh (q := 1) (by decide)) rfl) rfl rfl hl.1 rfl (lv_room (Nat.le_of_ble_eq_true rfl)) dX5_spans_45 ⟨Nat.le_of_ble_eq_true rfl, Nat.le_of_ble_eq_true rfl⟩) (fun A_2 L_3 H locs hw h => ?_)
      refine lv_aload_n hx hb dX5_spans_48 rfl (lv_at hl 0 rfl) ?_
      refine x_get (C := RX5) (T := TX5) (N := 6) hx hb hts inX5_spans_X5 hown hG hw xO0 rfl 2 (by decide) (hts (.fieldLink RX5 25 "SixNumbers" "trial" "LSixNumbers$Heap;") (List.mem_of_getElem? (i := 1) rfl)) (fun _ h9 => h9) (v := .ref (xad G (2 + 6 * 1))) rfl dX5_spans_49 ?_
      refine x_callv hG hw (va_runV (As := []) (rest := []) ⟨hx, hb, hml, hown, hts⟩ (c_X1_refresh (l := l) (G := G) (show 1 < 2 by decide) h) (cwV 0 hts gX5_spans_X1_refresh rfl rfl rfl (by decide +kernel) ⟨Nat.le_of_ble_eq_true rfl, Nat.le_of_ble_eq_true rfl⟩) (x_preV hG hw (xOh (q := 1) (by decide)) rfl) rfl rfl hl.1 rfl (lv_room (Nat.le_of_ble_eq_true rfl)) dX5_spans_52 ⟨Nat.le_of_ble_eq_true rfl, Nat.le_of_ble_eq_true rfl⟩) (fun A_4 L_5 H locs hw h => ?_)
      refine lv_aload_n hx hb dX5_spans_55 rfl (lv_at hl 0 rfl) ?_
      refine x_get (C := RX5) (T := TX5) (N := 6) hx hb hts inX5_spans_X5 hown hG hw xO0 rfl 2 (by decide) (hts (.fieldLink RX5 25 "SixNumbers" "trial" "LSixNumbers$Heap;") (List.mem_of_getElem? (i := 1) rfl)) (fun _ h9 => h9) (v := .ref (xad G (2 + 6 * 1))) rfl dX5_spans_56 ?_
      refine x_calli hG hw (va_runV (As := []) (rest := []) ⟨hx, hb, hml, hown, hts⟩ (c_X1_leastNotReached (l := l) (G := G) (show 1 < 2 by decide) h) (cwV 0 hts gX5_spans_X1_leastNotReached rfl rfl rfl (by decide +kernel) ⟨Nat.le_of_ble_eq_true rfl, Nat.le_of_ble_eq_true rfl⟩) (x_preV hG hw (xOh (q := 1) (by decide)) rfl) rfl rfl hl.1 rfl (lv_room (Nat.le_of_ble_eq_true rfl)) dX5_spans_59 ⟨Nat.le_of_ble_eq_true rfl, Nat.le_of_ble_eq_true rfl⟩) (fun r_6 A9 L9 H locs hw h => ?_)
      rw [h.2.1, h.2.2] at hw
      have h := h.1
      refine lv_iload_n hx hb dX5_spans_62 rfl (lv_at hl 2 rfl) ?_
      refine lv_icmp_le (tgt := 70) hx hb dX5_spans_63 (by decide) (fun c_7 => ?_) (fun c_7 => ?_)
      · have h := h.1 c_7
        refine lv_iconst (v := 0) hx hb dX5_spans_70 (by decide) ?_
        exact x_zret hx hb hr hlocks hG hw (by decide) h dX5_spans_71
      · have h := h.2 c_7
        refine lv_iconst (v := 1) hx hb dX5_spans_66 (by decide) ?_
        refine lv_goto (tgt := 71) hx hb dX5_spans_67 (by decide) ?_
        exact x_zret hx hb hr hlocks hG hw (by decide) h dX5_spans_71
    · have h := h.2 c_1
      refine lv_iload_n hx hb dX5_spans_12 rfl (lv_at hl 1 rfl) ?_
      refine lv_iload hx hb dX5_spans_13 (lv_at hl 4 rfl) ?_
      refine x_calli hG hw (va_runS (As := [.int x1, .int x4]) (rest := []) ⟨hx, hb, hml, hown, hts⟩ (c_X5_isInSpan (l := l) (G := G) h) (va_cwS 2 hts gX5_spans_X5_isInSpan rfl rfl rfl (by decide +kernel) ⟨Nat.le_of_ble_eq_true rfl, Nat.le_of_ble_eq_true rfl⟩) (x_preS hG hw) rfl rfl hl.1 rfl (lv_room (Nat.le_of_ble_eq_true rfl)) dX5_spans_15 ⟨Nat.le_of_ble_eq_true rfl, Nat.le_of_ble_eq_true rfl⟩) (fun r_8 A9 L9 H locs hw h => ?_)
      rw [h.2.1, h.2.2] at hw
      have h := h.1
      refine lv_if_eq (tgt := 34) hx hb dX5_spans_18 (by decide) (fun c_9 => ?_) (fun c_9 => ?_)
      · have h := h.1 c_9
        obtain ⟨x4_10, ex4_10⟩ : ∃ y : Int32, y = x4 + (1 : Int32) := ⟨_, rfl⟩
        have h := h x4_10 ex4_10
        refine lv_iinc (v := x4_10) (lv' := [(4, .int x4_10), (0, .ref (xad G 0)), (1, .int x1), (2, .int x2), (3, .int x3)]) hx hb dX5_spans_34 hl (k := 4) rfl (by rw [ex4_10]; rfl) (by decide) rfl (fun ls hl => ?_)
        refine lv_goto (tgt := 5) hx hb dX5_spans_37 (by decide) ?_
        exact ih x3 x4_10 A L _ _ _ hw (lv_sub hl [1, 2, 3, 4, 0] rfl) h
      · have h := h.2 c_9
        refine lv_aload_n hx hb dX5_spans_21 rfl (lv_at hl 0 rfl) ?_
        refine x_get (C := RX5) (T := TX5) (N := 6) hx hb hts inX5_spans_X5 hown hG hw xO0 rfl 2 (by decide) (hts (.fieldLink RX5 25 "SixNumbers" "trial" "LSixNumbers$Heap;") (List.mem_of_getElem? (i := 1) rfl)) (fun _ h9 => h9) (v := .ref (xad G (2 + 6 * 1))) rfl dX5_spans_22 ?_
        refine lv_iload_n hx hb dX5_spans_25 rfl (lv_at hl 3 rfl) ?_
        refine lv_iload hx hb dX5_spans_26 (lv_at hl 4 rfl) ?_
        refine x_callv hG hw (va_runV (As := [.int x3, .int x4]) (rest := []) ⟨hx, hb, hml, hown, hts⟩ (c_X1_place (l := l) (G := G) (show 1 < 2 by decide) h) (cwV 2 hts gX5_spans_X1_place rfl rfl rfl (by decide +kernel) ⟨Nat.le_of_ble_eq_true rfl, Nat.le_of_ble_eq_true rfl⟩) (x_preV hG hw (xOh (q := 1) (by decide)) rfl) rfl rfl hl.1 rfl (lv_room (Nat.le_of_ble_eq_true rfl)) dX5_spans_28 ⟨Nat.le_of_ble_eq_true rfl, Nat.le_of_ble_eq_true rfl⟩) (fun A_11 L_12 H locs hw h => ?_)
        obtain ⟨x3_13, ex3_13⟩ : ∃ y : Int32, y = x3 + (1 : Int32) := ⟨_, rfl⟩
        have h := h x3_13 ex3_13
        refine lv_iinc (v := x3_13) (lv' := [(3, .int x3_13), (0, .ref (xad G 0)), (1, .int x1), (2, .int x2), (4, .int x4)]) hx hb dX5_spans_31 hl (k := 3) rfl (by rw [ex3_13]; rfl) (by decide) rfl (fun ls hl => ?_)
        obtain ⟨x4_14, ex4_14⟩ : ∃ y : Int32, y = x4 + (1 : Int32) := ⟨_, rfl⟩
        have h := h x4_14 ex4_14
        refine lv_iinc (v := x4_14) (lv' := [(4, .int x4_14), (3, .int x3_13), (0, .ref (xad G 0)), (1, .int x1), (2, .int x2)]) hx hb dX5_spans_34 hl (k := 4) rfl (by rw [ex4_14]; rfl) (by decide) rfl (fun ls hl => ?_)
        refine lv_goto (tgt := 5) hx hb dX5_spans_37 (by decide) ?_
        exact ih x3_13 x4_14 A_11 L_12 _ _ _ hw (lv_sub hl [2, 3, 4, 1, 0] rfl) h
set_option maxHeartbeats 4000000 in
set_option maxRecDepth 100000 in
theorem t_X5_spans_0 (C0 : xC p s m args meth c G cX5_spans (some .boolean) wsX5_spans RX5 5) {post : Int32 → xM → xL → Prop} {x1 : Int32} {x2 : Int32} {A : xM} {L : xL} {H : Heap} {locs : List Loc} {ls : Array Slot} (hw : xW G s.heap A L H locs) (hl : lv_has ls 5 [(0, .ref (xad G 0)), (1, .int x1), (2, .int x2)]) (h : v_X5_spans x1 x2 A L post) : W p l e rX5_spans s m args below meth c H locs 0 0 (MQ below (xQi G post) args s 0 0 (xAf G)) (F0 m 0 ls []) := by
  obtain ⟨hx, hb, hr, hts, hown, hml, hlocks, hG⟩ := id C0
  unfold v_X5_spans at h
  refine lv_iconst (v := 0) hx hb dX5_spans_0 (by decide) ?_
  refine lv_istore_n (lv' := [(3, .int (0 : Int32)), (0, .ref (xad G 0)), (1, .int x1), (2, .int x2)]) hx hb dX5_spans_1 rfl hl (by decide) rfl (fun ls hl => ?_)
  refine lv_iconst (v := 1) hx hb dX5_spans_2 (by decide) ?_
  refine lv_istore (lv' := [(4, .int (1 : Int32)), (3, .int (0 : Int32)), (0, .ref (xad G 0)), (1, .int x1), (2, .int x2)]) hx hb dX5_spans_3 hl (by decide) rfl (fun ls hl => ?_)
  obtain ⟨n9, h⟩ := h
  exact t_X5_spans_5 C0 n9 (0 : Int32) (1 : Int32) A L _ _ _ hw (lv_sub hl [2, 3, 4, 1, 0] rfl) h
theorem c_X5_spans {l : Launch} {G : xGt} {x1 : Int32} {x2 : Int32} {A : xM} {L : xL} {post : Int32 → xM → xL → Prop} (h : v_X5_spans x1 x2 A L post) : Met l yX5_spans wsX5_spans rX5_spans (va_Pc [.ref (xad G 0), .int x1, .int x2] (xPre G A L)) (xQi G post) 0 0 (xAf G) :=
  x_met RX5 rfl (by decide) rfl (Nat.le_of_ble_eq_true rfl) (fun p e s m below meth c ls C0 hw hl => t_X5_spans_0 C0 hw hl h)
end MECH
abbrev rX5_firstSpan : Room := { frames := 5, cells := 0, slots := 0, locals := 126 }
def v_X5_firstSpan_4 (x1 : Int32) (x2 : Int32) (post : Int32 → xM → xL → Prop) : Nat → Int32 → xM → xL → Prop
  | 0, _, _, _ => False
  | n + 1, x3, A, L => (x3 ≤ 0 → (post (0 : Int32) A L)) ∧ (¬ x3 ≤ 0 → (v_J6_bitCount_0f7a4 x3 (fun (r_2 : Int32) => ((¬ r_2 = x1 → (∀ x3_4 : Int32, x3_4 = x3 + (-1 : Int32) → (v_X5_firstSpan_4 x1 x2 post n x3_4 A L))) ∧ (r_2 = x1 → (v_X5_spans x3 x2 A L (fun (r_5 : Int32) (A_6 : xM) (L_7 : xL) => ((r_5 = 0 → (∀ x3_9 : Int32, x3_9 = x3 + (-1 : Int32) → (v_X5_firstSpan_4 x1 x2 post n x3_9 A_6 L_7))) ∧ (¬ r_5 = 0 → (post x3 A_6 L_7))))))))))
def v_X5_firstSpan (x1 : Int32) (x2 : Int32) (A : xM) (L : xL) (post : Int32 → xM → xL → Prop) : Prop := ∃ k9 : Nat, v_X5_firstSpan_4 x1 x2 post k9 (4095 : Int32) A L
section MECH
variable {p : Program} {l : Launch} {e : Env} {s : State} {m : MethodId} {args : Array Value} {below : List Frame} {meth : Method} {c : Code} {G : xGt}
set_option maxHeartbeats 4000000 in
set_option maxRecDepth 100000 in
theorem t_X5_firstSpan_4 (C0 : xC p s m args meth c G cX5_firstSpan (some .int) wsX5_firstSpan RX5 4) {post : Int32 → xM → xL → Prop} {x1 : Int32} {x2 : Int32} : ∀ (n : Nat) (x3 : Int32) (A : xM) (L : xL) (H : Heap) (locs : List Loc) (ls : Array Slot), xW G s.heap A L H locs → lv_has ls 4 [(0, .ref (xad G 0)), (1, .int x1), (2, .int x2), (3, .int x3)] → v_X5_firstSpan_4 x1 x2 post n x3 A L → W p l e rX5_firstSpan s m args below meth c H locs 0 0 (MQ below (xQi G post) args s 0 0 (xAf G)) (F0 m 4 ls []) := by
  obtain ⟨hx, hb, hr, hts, hown, hml, hlocks, hG⟩ := id C0
  intro n
  induction n with
  | zero => intro x3 A L H locs ls hw hl h; exact (show False from h).elim
  | succ n ih =>
    intro x3 A L H locs ls hw hl h
    unfold v_X5_firstSpan_4 at h
    refine lv_iload_n hx hb dX5_firstSpan_4 rfl (lv_at hl 3 rfl) ?_
    refine lv_if_le (tgt := 33) hx hb dX5_firstSpan_5 (by decide) (fun c_1 => ?_) (fun c_1 => ?_)
    · have h := h.1 c_1
      refine lv_iconst (v := 0) hx hb dX5_firstSpan_33 (by decide) ?_
      exact x_iret hx hb hr hlocks hG hw h dX5_firstSpan_34
    · have h := h.2 c_1
      refine lv_iload_n hx hb dX5_firstSpan_8 rfl (lv_at hl 3 rfl) ?_
      refine x_calli hG hw (va_runS (As := [.int x3]) (rest := []) ⟨hx, hb, hml, hown, hts⟩ (c_J6_bitCount_0f7a4 (l := l) (G := G) h) (va_cwS 1 hts gX5_firstSpan_J6_bitCount_0f7a4 rfl rfl rfl (by decide +kernel) ⟨Nat.le_of_ble_eq_true rfl, Nat.le_of_ble_eq_true rfl⟩) (x_preS hG hw) rfl rfl hl.1 rfl (lv_room (Nat.le_of_ble_eq_true rfl)) dX5_firstSpan_9 ⟨Nat.le_of_ble_eq_true rfl, Nat.le_of_ble_eq_true rfl⟩) (fun r_2 A9 L9 H locs hw h => ?_)
      rw [h.2.1, h.2.2] at hw
      have h := h.1
      refine lv_iload_n hx hb dX5_firstSpan_12 rfl (lv_at hl 1 rfl) ?_
      refine lv_icmp_ne (tgt := 27) hx hb dX5_firstSpan_13 (by decide) (fun c_3 => ?_) (fun c_3 => ?_)
      · have h := h.1 c_3
        obtain ⟨x3_4, ex3_4⟩ : ∃ y : Int32, y = x3 + (-1 : Int32) := ⟨_, rfl⟩
        have h := h x3_4 ex3_4
        refine lv_iinc (v := x3_4) (lv' := [(3, .int x3_4), (0, .ref (xad G 0)), (1, .int x1), (2, .int x2)]) hx hb dX5_firstSpan_27 hl (k := 3) rfl (by rw [ex3_4]; rfl) (by decide) rfl (fun ls hl => ?_)
        refine lv_goto (tgt := 4) hx hb dX5_firstSpan_30 (by decide) ?_
        exact ih x3_4 A L _ _ _ hw (lv_sub hl [1, 2, 3, 0] rfl) h
      · have h := h.2 c_3
        refine lv_aload_n hx hb dX5_firstSpan_16 rfl (lv_at hl 0 rfl) ?_
        refine lv_iload_n hx hb dX5_firstSpan_17 rfl (lv_at hl 3 rfl) ?_
        refine lv_iload_n hx hb dX5_firstSpan_18 rfl (lv_at hl 2 rfl) ?_
        refine x_calli hG hw (va_runV (As := [.int x3, .int x2]) (rest := []) ⟨hx, hb, hml, hown, hts⟩ (c_X5_spans (l := l) (G := G) h) (cwV 2 hts gX5_firstSpan_X5_spans rfl rfl rfl (by decide +kernel) ⟨Nat.le_of_ble_eq_true rfl, Nat.le_of_ble_eq_true rfl⟩) (x_preV hG hw xO0 rfl) rfl rfl hl.1 rfl (lv_room (Nat.le_of_ble_eq_true rfl)) dX5_firstSpan_19 ⟨Nat.le_of_ble_eq_true rfl, Nat.le_of_ble_eq_true rfl⟩) (fun r_5 A_6 L_7 H locs hw h => ?_)
        refine lv_if_eq (tgt := 27) hx hb dX5_firstSpan_22 (by decide) (fun c_8 => ?_) (fun c_8 => ?_)
        · have h := h.1 c_8
          obtain ⟨x3_9, ex3_9⟩ : ∃ y : Int32, y = x3 + (-1 : Int32) := ⟨_, rfl⟩
          have h := h x3_9 ex3_9
          refine lv_iinc (v := x3_9) (lv' := [(3, .int x3_9), (0, .ref (xad G 0)), (1, .int x1), (2, .int x2)]) hx hb dX5_firstSpan_27 hl (k := 3) rfl (by rw [ex3_9]; rfl) (by decide) rfl (fun ls hl => ?_)
          refine lv_goto (tgt := 4) hx hb dX5_firstSpan_30 (by decide) ?_
          exact ih x3_9 A_6 L_7 _ _ _ hw (lv_sub hl [1, 2, 3, 0] rfl) h
        · have h := h.2 c_8
          refine lv_iload_n hx hb dX5_firstSpan_25 rfl (lv_at hl 3 rfl) ?_
          exact x_iret hx hb hr hlocks hG hw h dX5_firstSpan_26
set_option maxHeartbeats 4000000 in
set_option maxRecDepth 100000 in
theorem t_X5_firstSpan_0 (C0 : xC p s m args meth c G cX5_firstSpan (some .int) wsX5_firstSpan RX5 4) {post : Int32 → xM → xL → Prop} {x1 : Int32} {x2 : Int32} {A : xM} {L : xL} {H : Heap} {locs : List Loc} {ls : Array Slot} (hw : xW G s.heap A L H locs) (hl : lv_has ls 4 [(0, .ref (xad G 0)), (1, .int x1), (2, .int x2)]) (h : v_X5_firstSpan x1 x2 A L post) : W p l e rX5_firstSpan s m args below meth c H locs 0 0 (MQ below (xQi G post) args s 0 0 (xAf G)) (F0 m 0 ls []) := by
  obtain ⟨hx, hb, hr, hts, hown, hml, hlocks, hG⟩ := id C0
  unfold v_X5_firstSpan at h
  refine lv_sipush (v := 4095) hx hb dX5_firstSpan_0 (by decide) ?_
  refine lv_istore_n (lv' := [(3, .int (4095 : Int32)), (0, .ref (xad G 0)), (1, .int x1), (2, .int x2)]) hx hb dX5_firstSpan_3 rfl hl (by decide) rfl (fun ls hl => ?_)
  obtain ⟨n9, h⟩ := h
  exact t_X5_firstSpan_4 C0 n9 (4095 : Int32) A L _ _ _ hw (lv_sub hl [1, 2, 3, 0] rfl) h
theorem c_X5_firstSpan {l : Launch} {G : xGt} {x1 : Int32} {x2 : Int32} {A : xM} {L : xL} {post : Int32 → xM → xL → Prop} (h : v_X5_firstSpan x1 x2 A L post) : Met l yX5_firstSpan wsX5_firstSpan rX5_firstSpan (va_Pc [.ref (xad G 0), .int x1, .int x2] (xPre G A L)) (xQi G post) 0 0 (xAf G) :=
  x_met RX5 rfl (by decide) rfl (Nat.le_of_ble_eq_true rfl) (fun p e s m below meth c ls C0 hw hl => t_X5_firstSpan_0 C0 hw hl h)
end MECH
abbrev rX5_spanNumber : Room := { frames := 1, cells := 0, slots := 0, locals := 21 }
def v_X5_spanNumber_4 (x0 : Int32) (x1 : Int32) (post : Int32 → Prop) : Nat → Int32 → Int32 → Prop
  | 0, _, _ => False
  | n + 1, x2, x3 => ((12 : Int32) < x3 → (post (-1 : Int32))) ∧ (¬ (12 : Int32) < x3 → (v_X5_isInSpan x0 x3 (fun (r_2 : Int32) => ((r_2 = 0 → (∀ x3_4 : Int32, x3_4 = x3 + (1 : Int32) → (v_X5_spanNumber_4 x0 x1 post n x2 x3_4))) ∧ (¬ r_2 = 0 → ((¬ x2 = x1 → (∀ x2_6 : Int32, x2_6 = x2 + (1 : Int32) → (∀ x3_7 : Int32, x3_7 = x3 + (1 : Int32) → (v_X5_spanNumber_4 x0 x1 post n x2_6 x3_7)))) ∧ (x2 = x1 → (post x3))))))))
def v_X5_spanNumber (x0 : Int32) (x1 : Int32) (post : Int32 → Prop) : Prop := ∃ k9 : Nat, v_X5_spanNumber_4 x0 x1 post k9 (0 : Int32) (1 : Int32)
section MECH
variable {p : Program} {l : Launch} {e : Env} {s : State} {m : MethodId} {args : Array Value} {below : List Frame} {meth : Method} {c : Code} {G : xGt}
set_option maxHeartbeats 4000000 in
set_option maxRecDepth 100000 in
theorem t_X5_spanNumber_4 (C0 : xC p s m args meth c G cX5_spanNumber (some .int) wsX5_spanNumber RX5 4) {post : Int32 → Prop} {x0 : Int32} {x1 : Int32} {A : xM} {L : xL} : ∀ (n : Nat) (x2 : Int32) (x3 : Int32) (H : Heap) (locs : List Loc) (ls : Array Slot), xW G s.heap A L H locs → lv_has ls 4 [(0, .int x0), (1, .int x1), (2, .int x2), (3, .int x3)] → v_X5_spanNumber_4 x0 x1 post n x2 x3 → W p l e rX5_spanNumber s m args below meth c H locs 0 0 (MQ below (xQi G (xpi A L post)) args s 0 0 (xAf G)) (F0 m 4 ls []) := by
  obtain ⟨hx, hb, hr, hts, hown, hml, hlocks, hG⟩ := id C0
  intro n
  induction n with
  | zero => intro x2 x3 H locs ls hw hl h; exact (show False from h).elim
  | succ n ih =>
    intro x2 x3 H locs ls hw hl h
    unfold v_X5_spanNumber_4 at h
    refine lv_iload_n hx hb dX5_spanNumber_4 rfl (lv_at hl 3 rfl) ?_
    refine lv_bipush (v := 12) hx hb dX5_spanNumber_5 (by decide) ?_
    refine lv_icmp_gt (tgt := 34) hx hb dX5_spanNumber_7 (by decide) (fun c_1 => ?_) (fun c_1 => ?_)
    · have h := h.1 c_1
      refine lv_iconst (v := (-1)) hx hb dX5_spanNumber_34 (by decide) ?_
      exact x_iret hx hb hr hlocks hG hw ⟨h, rfl, rfl⟩ dX5_spanNumber_35
    · have h := h.2 c_1
      refine lv_iload_n hx hb dX5_spanNumber_10 rfl (lv_at hl 0 rfl) ?_
      refine lv_iload_n hx hb dX5_spanNumber_11 rfl (lv_at hl 3 rfl) ?_
      refine x_calli hG hw (va_runS (As := [.int x0, .int x3]) (rest := []) ⟨hx, hb, hml, hown, hts⟩ (c_X5_isInSpan (l := l) (G := G) h) (va_cwS 2 hts gX5_spanNumber_X5_isInSpan rfl rfl rfl (by decide +kernel) ⟨Nat.le_of_ble_eq_true rfl, Nat.le_of_ble_eq_true rfl⟩) (x_preS hG hw) rfl rfl hl.1 rfl (lv_room (Nat.le_of_ble_eq_true rfl)) dX5_spanNumber_12 ⟨Nat.le_of_ble_eq_true rfl, Nat.le_of_ble_eq_true rfl⟩) (fun r_2 A9 L9 H locs hw h => ?_)
      rw [h.2.1, h.2.2] at hw
      have h := h.1
      refine lv_if_eq (tgt := 28) hx hb dX5_spanNumber_15 (by decide) (fun c_3 => ?_) (fun c_3 => ?_)
      · have h := h.1 c_3
        obtain ⟨x3_4, ex3_4⟩ : ∃ y : Int32, y = x3 + (1 : Int32) := ⟨_, rfl⟩
        have h := h x3_4 ex3_4
        refine lv_iinc (v := x3_4) (lv' := [(3, .int x3_4), (0, .int x0), (1, .int x1), (2, .int x2)]) hx hb dX5_spanNumber_28 hl (k := 3) rfl (by rw [ex3_4]; rfl) (by decide) rfl (fun ls hl => ?_)
        refine lv_goto (tgt := 4) hx hb dX5_spanNumber_31 (by decide) ?_
        exact ih x2 x3_4 _ _ _ hw (lv_sub hl [1, 2, 3, 0] rfl) h
      · have h := h.2 c_3
        refine lv_iload_n hx hb dX5_spanNumber_18 rfl (lv_at hl 2 rfl) ?_
        refine lv_iload_n hx hb dX5_spanNumber_19 rfl (lv_at hl 1 rfl) ?_
        refine lv_icmp_ne (tgt := 25) hx hb dX5_spanNumber_20 (by decide) (fun c_5 => ?_) (fun c_5 => ?_)
        · have h := h.1 c_5
          obtain ⟨x2_6, ex2_6⟩ : ∃ y : Int32, y = x2 + (1 : Int32) := ⟨_, rfl⟩
          have h := h x2_6 ex2_6
          refine lv_iinc (v := x2_6) (lv' := [(2, .int x2_6), (0, .int x0), (1, .int x1), (3, .int x3)]) hx hb dX5_spanNumber_25 hl (k := 2) rfl (by rw [ex2_6]; rfl) (by decide) rfl (fun ls hl => ?_)
          obtain ⟨x3_7, ex3_7⟩ : ∃ y : Int32, y = x3 + (1 : Int32) := ⟨_, rfl⟩
          have h := h x3_7 ex3_7
          refine lv_iinc (v := x3_7) (lv' := [(3, .int x3_7), (2, .int x2_6), (0, .int x0), (1, .int x1)]) hx hb dX5_spanNumber_28 hl (k := 3) rfl (by rw [ex3_7]; rfl) (by decide) rfl (fun ls hl => ?_)
          refine lv_goto (tgt := 4) hx hb dX5_spanNumber_31 (by decide) ?_
          exact ih x2_6 x3_7 _ _ _ hw (lv_sub hl [2, 3, 1, 0] rfl) h
        · have h := h.2 c_5
          refine lv_iload_n hx hb dX5_spanNumber_23 rfl (lv_at hl 3 rfl) ?_
          exact x_iret hx hb hr hlocks hG hw ⟨h, rfl, rfl⟩ dX5_spanNumber_24
set_option maxHeartbeats 4000000 in
set_option maxRecDepth 100000 in
theorem t_X5_spanNumber_0 (C0 : xC p s m args meth c G cX5_spanNumber (some .int) wsX5_spanNumber RX5 4) {post : Int32 → Prop} {x0 : Int32} {x1 : Int32} {A : xM} {L : xL} {H : Heap} {locs : List Loc} {ls : Array Slot} (hw : xW G s.heap A L H locs) (hl : lv_has ls 4 [(0, .int x0), (1, .int x1)]) (h : v_X5_spanNumber x0 x1 post) : W p l e rX5_spanNumber s m args below meth c H locs 0 0 (MQ below (xQi G (xpi A L post)) args s 0 0 (xAf G)) (F0 m 0 ls []) := by
  obtain ⟨hx, hb, hr, hts, hown, hml, hlocks, hG⟩ := id C0
  unfold v_X5_spanNumber at h
  refine lv_iconst (v := 0) hx hb dX5_spanNumber_0 (by decide) ?_
  refine lv_istore_n (lv' := [(2, .int (0 : Int32)), (0, .int x0), (1, .int x1)]) hx hb dX5_spanNumber_1 rfl hl (by decide) rfl (fun ls hl => ?_)
  refine lv_iconst (v := 1) hx hb dX5_spanNumber_2 (by decide) ?_
  refine lv_istore_n (lv' := [(3, .int (1 : Int32)), (2, .int (0 : Int32)), (0, .int x0), (1, .int x1)]) hx hb dX5_spanNumber_3 rfl hl (by decide) rfl (fun ls hl => ?_)
  obtain ⟨n9, h⟩ := h
  exact t_X5_spanNumber_4 C0 n9 (0 : Int32) (1 : Int32) _ _ _ hw (lv_sub hl [2, 3, 1, 0] rfl) h
theorem c_X5_spanNumber {l : Launch} {G : xGt} {x0 : Int32} {x1 : Int32} {A : xM} {L : xL} {post : Int32 → Prop} (h : v_X5_spanNumber x0 x1 post) : Met l yX5_spanNumber wsX5_spanNumber rX5_spanNumber (va_Pc [.int x0, .int x1] (xPre G A L)) (xQi G (xpi A L post)) 0 0 (xAf G) :=
  x_met RX5 rfl (by decide) rfl (Nat.le_of_ble_eq_true rfl) (fun p e s m below meth c ls C0 hw hl => t_X5_spanNumber_0 C0 hw hl h)
end MECH
abbrev rX5_span : Room := { frames := 6, cells := 0, slots := 0, locals := 149 }
def v_X5_span (x1 : Int32) (x2 : Int32) (x3 : Int32) (A : xM) (L : xL) (post : Int32 → xM → xL → Prop) : Prop := v_X5_isOutside x1 (1 : Int32) (3 : Int32) (fun (r_1 : Int32) => ((¬ r_1 = 0 → (post (-1002 : Int32) A L)) ∧ (r_1 = 0 → (v_X5_isOutside x2 (1 : Int32) (100 : Int32) (fun (r_3 : Int32) => ((¬ r_3 = 0 → (post (-1002 : Int32) A L)) ∧ (r_3 = 0 → (v_X5_isOutside x3 (0 : Int32) (x1 - (1 : Int32)) (fun (r_5 : Int32) => ((r_5 = 0 → (v_X5_firstSpan x1 x2 A L (fun (r_7 : Int32) (A_8 : xM) (L_9 : xL) => (v_X5_spanNumber r_7 x3 (fun (r_10 : Int32) => (post r_10 A_8 L_9)))))) ∧ (¬ r_5 = 0 → (post (-1002 : Int32) A L))))))))))))
section MECH
variable {p : Program} {l : Launch} {e : Env} {s : State} {m : MethodId} {args : Array Value} {below : List Frame} {meth : Method} {c : Code} {G : xGt}
set_option maxHeartbeats 4000000 in
set_option maxRecDepth 100000 in
theorem t_X5_span_0 (C0 : xC p s m args meth c G cX5_span (some .int) wsX5_span RX5 4) {post : Int32 → xM → xL → Prop} {x1 : Int32} {x2 : Int32} {x3 : Int32} {A : xM} {L : xL} {H : Heap} {locs : List Loc} {ls : Array Slot} (hw : xW G s.heap A L H locs) (hl : lv_has ls 4 [(0, .ref (xad G 0)), (1, .int x1), (2, .int x2), (3, .int x3)]) (h : v_X5_span x1 x2 x3 A L post) : W p l e rX5_span s m args below meth c H locs 0 0 (MQ below (xQi G post) args s 0 0 (xAf G)) (F0 m 0 ls []) := by
  obtain ⟨hx, hb, hr, hts, hown, hml, hlocks, hG⟩ := id C0
  unfold v_X5_span at h
  refine lv_iload_n hx hb dX5_span_0 rfl (lv_at hl 1 rfl) ?_
  refine lv_iconst (v := 1) hx hb dX5_span_1 (by decide) ?_
  refine lv_iconst (v := 3) hx hb dX5_span_2 (by decide) ?_
  refine x_calli hG hw (va_runS (As := [.int x1, .int (1 : Int32), .int (3 : Int32)]) (rest := []) ⟨hx, hb, hml, hown, hts⟩ (c_X5_isOutside (l := l) (G := G) h) (va_cwS 3 hts gX5_span_X5_isOutside rfl rfl rfl (by decide +kernel) ⟨Nat.le_of_ble_eq_true rfl, Nat.le_of_ble_eq_true rfl⟩) (x_preS hG hw) rfl rfl hl.1 rfl (lv_room (Nat.le_of_ble_eq_true rfl)) dX5_span_3 ⟨Nat.le_of_ble_eq_true rfl, Nat.le_of_ble_eq_true rfl⟩) (fun r_1 A9 L9 H locs hw h => ?_)
  rw [h.2.1, h.2.2] at hw
  have h := h.1
  refine lv_if_ne (tgt := 30) hx hb dX5_span_6 (by decide) (fun c_2 => ?_) (fun c_2 => ?_)
  · have h := h.1 c_2
    refine lv_sipush (v := (-1002)) hx hb dX5_span_30 (by decide) ?_
    exact x_iret hx hb hr hlocks hG hw h dX5_span_33
  · have h := h.2 c_2
    refine lv_iload_n hx hb dX5_span_9 rfl (lv_at hl 2 rfl) ?_
    refine lv_iconst (v := 1) hx hb dX5_span_10 (by decide) ?_
    refine lv_bipush (v := 100) hx hb dX5_span_11 (by decide) ?_
    refine x_calli hG hw (va_runS (As := [.int x2, .int (1 : Int32), .int (100 : Int32)]) (rest := []) ⟨hx, hb, hml, hown, hts⟩ (c_X5_isOutside (l := l) (G := G) h) (va_cwS 3 hts gX5_span_X5_isOutside rfl rfl rfl (by decide +kernel) ⟨Nat.le_of_ble_eq_true rfl, Nat.le_of_ble_eq_true rfl⟩) (x_preS hG hw) rfl rfl hl.1 rfl (lv_room (Nat.le_of_ble_eq_true rfl)) dX5_span_13 ⟨Nat.le_of_ble_eq_true rfl, Nat.le_of_ble_eq_true rfl⟩) (fun r_3 A9 L9 H locs hw h => ?_)
    rw [h.2.1, h.2.2] at hw
    have h := h.1
    refine lv_if_ne (tgt := 30) hx hb dX5_span_16 (by decide) (fun c_4 => ?_) (fun c_4 => ?_)
    · have h := h.1 c_4
      refine lv_sipush (v := (-1002)) hx hb dX5_span_30 (by decide) ?_
      exact x_iret hx hb hr hlocks hG hw h dX5_span_33
    · have h := h.2 c_4
      refine lv_iload_n hx hb dX5_span_19 rfl (lv_at hl 3 rfl) ?_
      refine lv_iconst (v := 0) hx hb dX5_span_20 (by decide) ?_
      refine lv_iload_n hx hb dX5_span_21 rfl (lv_at hl 1 rfl) ?_
      refine lv_iconst (v := 1) hx hb dX5_span_22 (by decide) ?_
      refine lv_isub hx hb dX5_span_23 ?_
      refine x_calli hG hw (va_runS (As := [.int x3, .int (0 : Int32), .int (x1 - (1 : Int32))]) (rest := []) ⟨hx, hb, hml, hown, hts⟩ (c_X5_isOutside (l := l) (G := G) h) (va_cwS 3 hts gX5_span_X5_isOutside rfl rfl rfl (by decide +kernel) ⟨Nat.le_of_ble_eq_true rfl, Nat.le_of_ble_eq_true rfl⟩) (x_preS hG hw) rfl rfl hl.1 rfl (lv_room (Nat.le_of_ble_eq_true rfl)) dX5_span_24 ⟨Nat.le_of_ble_eq_true rfl, Nat.le_of_ble_eq_true rfl⟩) (fun r_5 A9 L9 H locs hw h => ?_)
      rw [h.2.1, h.2.2] at hw
      have h := h.1
      refine lv_if_eq (tgt := 34) hx hb dX5_span_27 (by decide) (fun c_6 => ?_) (fun c_6 => ?_)
      · have h := h.1 c_6
        refine lv_aload_n hx hb dX5_span_34 rfl (lv_at hl 0 rfl) ?_
        refine lv_iload_n hx hb dX5_span_35 rfl (lv_at hl 1 rfl) ?_
        refine lv_iload_n hx hb dX5_span_36 rfl (lv_at hl 2 rfl) ?_
        refine x_calli hG hw (va_runV (As := [.int x1, .int x2]) (rest := []) ⟨hx, hb, hml, hown, hts⟩ (c_X5_firstSpan (l := l) (G := G) h) (cwV 2 hts gX5_span_X5_firstSpan rfl rfl rfl (by decide +kernel) ⟨Nat.le_of_ble_eq_true rfl, Nat.le_of_ble_eq_true rfl⟩) (x_preV hG hw xO0 rfl) rfl rfl hl.1 rfl (lv_room (Nat.le_of_ble_eq_true rfl)) dX5_span_37 ⟨Nat.le_of_ble_eq_true rfl, Nat.le_of_ble_eq_true rfl⟩) (fun r_7 A_8 L_9 H locs hw h => ?_)
        refine lv_iload_n hx hb dX5_span_40 rfl (lv_at hl 3 rfl) ?_
        refine x_calli hG hw (va_runS (As := [.int r_7, .int x3]) (rest := []) ⟨hx, hb, hml, hown, hts⟩ (c_X5_spanNumber (l := l) (G := G) h) (va_cwS 2 hts gX5_span_X5_spanNumber rfl rfl rfl (by decide +kernel) ⟨Nat.le_of_ble_eq_true rfl, Nat.le_of_ble_eq_true rfl⟩) (x_preS hG hw) rfl rfl hl.1 rfl (lv_room (Nat.le_of_ble_eq_true rfl)) dX5_span_41 ⟨Nat.le_of_ble_eq_true rfl, Nat.le_of_ble_eq_true rfl⟩) (fun r_10 A9 L9 H locs hw h => ?_)
        rw [h.2.1, h.2.2] at hw
        have h := h.1
        exact x_iret hx hb hr hlocks hG hw h dX5_span_44
      · have h := h.2 c_6
        refine lv_sipush (v := (-1002)) hx hb dX5_span_30 (by decide) ?_
        exact x_iret hx hb hr hlocks hG hw h dX5_span_33
theorem c_X5_span {l : Launch} {G : xGt} {x1 : Int32} {x2 : Int32} {x3 : Int32} {A : xM} {L : xL} {post : Int32 → xM → xL → Prop} (h : v_X5_span x1 x2 x3 A L post) : Met l yX5_span wsX5_span rX5_span (va_Pc [.ref (xad G 0), .int x1, .int x2, .int x3] (xPre G A L)) (xQi G post) 0 0 (xAf G) :=
  x_met RX5 rfl (by decide) rfl (Nat.le_of_ble_eq_true rfl) (fun p e s m below meth c ls C0 hw hl => t_X5_span_0 C0 hw hl h)
end MECH
abbrev rX5_signs : Room := { frames := 4, cells := 0, slots := 0, locals := 90 }
theorem inX5_signs_X5 : ∀ w ∈ wsX50, w ∈ wsX5_signs := fun w h => List.mem_cons_of_mem _ (List.mem_append_left _ (List.mem_append_right _ h))
def v_X5_signs (x1 : Int32) (x2 : Int32) (A : xM) (L : xL) (post : Int32 → xM → xL → Prop) : Prop := v_X5_isOutside x1 (1 : Int32) (100 : Int32) (fun (r_1 : Int32) => ((¬ r_1 = 0 → (post (-1002 : Int32) A L)) ∧ (r_1 = 0 → (v_X5_isOutside x2 (0 : Int32) (5040 : Int32) (fun (r_3 : Int32) => ((r_3 = 0 → (v_X4_stepsBetween x1 x2 A L (fun (r_5 : Int32) (A_6 : xM) (L_7 : xL) => (post r_5 A_6 L_7)))) ∧ (¬ r_3 = 0 → (post (-1002 : Int32) A L))))))))
section MECH
variable {p : Program} {l : Launch} {e : Env} {s : State} {m : MethodId} {args : Array Value} {below : List Frame} {meth : Method} {c : Code} {G : xGt}
set_option maxHeartbeats 4000000 in
set_option maxRecDepth 100000 in
theorem t_X5_signs_0 (C0 : xC p s m args meth c G cX5_signs (some .int) wsX5_signs RX5 3) {post : Int32 → xM → xL → Prop} {x1 : Int32} {x2 : Int32} {A : xM} {L : xL} {H : Heap} {locs : List Loc} {ls : Array Slot} (hw : xW G s.heap A L H locs) (hl : lv_has ls 3 [(0, .ref (xad G 0)), (1, .int x1), (2, .int x2)]) (h : v_X5_signs x1 x2 A L post) : W p l e rX5_signs s m args below meth c H locs 0 0 (MQ below (xQi G post) args s 0 0 (xAf G)) (F0 m 0 ls []) := by
  obtain ⟨hx, hb, hr, hts, hown, hml, hlocks, hG⟩ := id C0
  unfold v_X5_signs at h
  refine lv_iload_n hx hb dX5_signs_0 rfl (lv_at hl 1 rfl) ?_
  refine lv_iconst (v := 1) hx hb dX5_signs_1 (by decide) ?_
  refine lv_bipush (v := 100) hx hb dX5_signs_2 (by decide) ?_
  refine x_calli hG hw (va_runS (As := [.int x1, .int (1 : Int32), .int (100 : Int32)]) (rest := []) ⟨hx, hb, hml, hown, hts⟩ (c_X5_isOutside (l := l) (G := G) h) (va_cwS 3 hts gX5_signs_X5_isOutside rfl rfl rfl (by decide +kernel) ⟨Nat.le_of_ble_eq_true rfl, Nat.le_of_ble_eq_true rfl⟩) (x_preS hG hw) rfl rfl hl.1 rfl (lv_room (Nat.le_of_ble_eq_true rfl)) dX5_signs_4 ⟨Nat.le_of_ble_eq_true rfl, Nat.le_of_ble_eq_true rfl⟩) (fun r_1 A9 L9 H locs hw h => ?_)
  rw [h.2.1, h.2.2] at hw
  have h := h.1
  refine lv_if_ne (tgt := 21) hx hb dX5_signs_7 (by decide) (fun c_2 => ?_) (fun c_2 => ?_)
  · have h := h.1 c_2
    refine lv_sipush (v := (-1002)) hx hb dX5_signs_21 (by decide) ?_
    exact x_iret hx hb hr hlocks hG hw h dX5_signs_24
  · have h := h.2 c_2
    refine lv_iload_n hx hb dX5_signs_10 rfl (lv_at hl 2 rfl) ?_
    refine lv_iconst (v := 0) hx hb dX5_signs_11 (by decide) ?_
    refine lv_sipush (v := 5040) hx hb dX5_signs_12 (by decide) ?_
    refine x_calli hG hw (va_runS (As := [.int x2, .int (0 : Int32), .int (5040 : Int32)]) (rest := []) ⟨hx, hb, hml, hown, hts⟩ (c_X5_isOutside (l := l) (G := G) h) (va_cwS 3 hts gX5_signs_X5_isOutside rfl rfl rfl (by decide +kernel) ⟨Nat.le_of_ble_eq_true rfl, Nat.le_of_ble_eq_true rfl⟩) (x_preS hG hw) rfl rfl hl.1 rfl (lv_room (Nat.le_of_ble_eq_true rfl)) dX5_signs_15 ⟨Nat.le_of_ble_eq_true rfl, Nat.le_of_ble_eq_true rfl⟩) (fun r_3 A9 L9 H locs hw h => ?_)
    rw [h.2.1, h.2.2] at hw
    have h := h.1
    refine lv_if_eq (tgt := 25) hx hb dX5_signs_18 (by decide) (fun c_4 => ?_) (fun c_4 => ?_)
    · have h := h.1 c_4
      refine lv_aload_n hx hb dX5_signs_25 rfl (lv_at hl 0 rfl) ?_
      refine x_get (C := RX5) (T := TX5) (N := 6) hx hb hts inX5_signs_X5 hown hG hw xO0 rfl 5 (by decide) (hts (.fieldLink RX5 47 "SixNumbers" "chain" "LSixNumbers$Signs;") (List.mem_of_getElem? (i := 1) rfl)) (fun _ h9 => h9) (v := .ref (xad G 20)) rfl dX5_signs_26 ?_
      refine lv_iload_n hx hb dX5_signs_29 rfl (lv_at hl 1 rfl) ?_
      refine lv_iload_n hx hb dX5_signs_30 rfl (lv_at hl 2 rfl) ?_
      refine x_calli hG hw (va_runV (As := [.int x1, .int x2]) (rest := []) ⟨hx, hb, hml, hown, hts⟩ (c_X4_stepsBetween (l := l) (G := G) h) (cwV 2 hts gX5_signs_X4_stepsBetween rfl rfl rfl (by decide +kernel) ⟨Nat.le_of_ble_eq_true rfl, Nat.le_of_ble_eq_true rfl⟩) (x_preV hG hw xO20 rfl) rfl rfl hl.1 rfl (lv_room (Nat.le_of_ble_eq_true rfl)) dX5_signs_31 ⟨Nat.le_of_ble_eq_true rfl, Nat.le_of_ble_eq_true rfl⟩) (fun r_5 A_6 L_7 H locs hw h => ?_)
      exact x_iret hx hb hr hlocks hG hw h dX5_signs_34
    · have h := h.2 c_4
      refine lv_sipush (v := (-1002)) hx hb dX5_signs_21 (by decide) ?_
      exact x_iret hx hb hr hlocks hG hw h dX5_signs_24
theorem c_X5_signs {l : Launch} {G : xGt} {x1 : Int32} {x2 : Int32} {A : xM} {L : xL} {post : Int32 → xM → xL → Prop} (h : v_X5_signs x1 x2 A L post) : Met l yX5_signs wsX5_signs rX5_signs (va_Pc [.ref (xad G 0), .int x1, .int x2] (xPre G A L)) (xQi G post) 0 0 (xAf G) :=
  x_met RX5 rfl (by decide) rfl (Nat.le_of_ble_eq_true rfl) (fun p e s m below meth c ls C0 hw hl => t_X5_signs_0 C0 hw hl h)
end MECH
