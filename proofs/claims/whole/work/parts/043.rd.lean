abbrev rX6_card : Room := { frames := 1, cells := 0, slots := 0, locals := 25 }
theorem inX6_card_X6 : ∀ w ∈ wsX60, w ∈ wsX6_card := fun w h => List.mem_cons_of_mem _ (List.mem_append_right _ h)
def v_X6_card (x1 : Int32) (A : xM) (L : xL) (post : Int32 → xM → xL → Prop) : Prop := v_X6_in (x1).toInt64 (1 : Int64) (100 : Int64) (fun (r_1 : Int32) => ((¬ r_1 = 0 → ((¬ (A 23 4) = (10 : Int32) → (vp_in (A 23 4) 10 ∧ (∀ A_5 : xM, A_5 = xu A 25 (A 23 4).toNatClampNeg x1 → (∀ A_6 : xM, A_6 = xu A_5 23 4 ((A_5 23 4) + (1 : Int32)) → (post ((A_6 23 4) - (1 : Int32)) A_6 L))))) ∧ ((A 23 4) = (10 : Int32) → (post (-1004 : Int32) A L)))) ∧ (r_1 = 0 → (post (-1002 : Int32) A L))))
section MECH
variable {p : Program} {l : Launch} {e : Env} {s : State} {m : MethodId} {args : Array Value} {below : List Frame} {meth : Method} {c : Code} {G : xGt}
set_option maxHeartbeats 4000000 in
set_option maxRecDepth 100000 in
theorem t_X6_card_0 (C0 : xC p s m args meth c G cX6_card (some .int) wsX6_card RX6 2) {post : Int32 → xM → xL → Prop} {x1 : Int32} {A : xM} {L : xL} {H : Heap} {locs : List Loc} {ls : Array Slot} (hw : xW G s.heap A L H locs) (hl : lv_has ls 2 [(0, .ref (xad G 23)), (1, .int x1)]) (h : v_X6_card x1 A L post) : W p l e rX6_card s m args below meth c H locs 0 0 (MQ below (xQi G post) args s 0 0 (xAf G)) (F0 m 0 ls []) := by
  obtain ⟨hx, hb, hr, hts, hown, hml, hlocks, hG⟩ := id C0
  unfold v_X6_card at h
  refine lv_iload_n hx hb dX6_card_0 rfl (lv_at hl 1 rfl) ?_
  refine lv_i2l hx hb dX6_card_1 rfl ?_
  refine lv_lconst (v := 1) hx hb dX6_card_2 (by decide) ?_
  refine lv_ldc2 (v := (100 : Int64)) hx hb hown (hts _ (List.mem_of_getElem? (i := 1) rfl)) dX6_card_3 ?_
  refine x_calli hG hw (va_runS (As := [.long (x1).toInt64, .long (1 : Int64), .long (100 : Int64)]) (rest := []) ⟨hx, hb, hml, hown, hts⟩ (c_X6_in (l := l) (G := G) h) (va_cwS 3 hts gX6_card_X6_in rfl rfl rfl (by decide +kernel) ⟨Nat.le_of_ble_eq_true rfl, Nat.le_of_ble_eq_true rfl⟩) (x_preS hG hw) rfl rfl hl.1 rfl (lv_room (Nat.le_of_ble_eq_true rfl)) dX6_card_6 ⟨Nat.le_of_ble_eq_true rfl, Nat.le_of_ble_eq_true rfl⟩) (fun r_1 A9 L9 H locs hw h => ?_)
  rw [h.2.1, h.2.2] at hw
  have h := h.1
  refine lv_if_ne (tgt := 16) hx hb dX6_card_9 (by decide) (fun c_2 => ?_) (fun c_2 => ?_)
  · have h := h.1 c_2
    refine lv_aload_n hx hb dX6_card_16 rfl (lv_at hl 0 rfl) ?_
    refine x_get (C := RX6) (T := TX6) (N := 20) hx hb hts inX6_card_X6 hown hG hw xO23 rfl 4 (by decide) (hts (.fieldLink RX6 78 "SixNumbersModel" "cards" "I") (List.mem_of_getElem? (i := 2) rfl)) (fun _ h9 => h9) (v := .int (A 23 4)) rfl dX6_card_17 ?_
    refine lv_bipush (v := 10) hx hb dX6_card_20 (by decide) ?_
    refine lv_icmp_ne (tgt := 29) hx hb dX6_card_22 (by decide) (fun c_3 => ?_) (fun c_3 => ?_)
    · have h := h.1 c_3
      refine lv_aload_n hx hb dX6_card_29 rfl (lv_at hl 0 rfl) ?_
      refine x_get (C := RX6) (T := TX6) (N := 20) hx hb hts inX6_card_X6 hown hG hw xO23 rfl 5 (by decide) (hts (.fieldLink RX6 20 "SixNumbersModel" "box" "[I") (List.mem_of_getElem? (i := 3) rfl)) (fun _ h9 => h9) (v := .ref (xad G 25)) rfl dX6_card_30 ?_
      refine lv_aload_n hx hb dX6_card_33 rfl (lv_at hl 0 rfl) ?_
      refine x_get (C := RX6) (T := TX6) (N := 20) hx hb hts inX6_card_X6 hown hG hw xO23 rfl 4 (by decide) (hts (.fieldLink RX6 78 "SixNumbersModel" "cards" "I") (List.mem_of_getElem? (i := 2) rfl)) (fun _ h9 => h9) (v := .int (A 23 4)) rfl dX6_card_34 ?_
      refine lv_iload_n hx hb dX6_card_37 rfl (lv_at hl 1 rfl) ?_
      have i_4 := h.1
      have h := h.2
      refine x_iast hx hb hG hw xb25 i_4 dX6_card_38 (fun A_5 H locs eA_5 hw => ?_)
      have h := h A_5 eA_5
      refine lv_aload_n hx hb dX6_card_39 rfl (lv_at hl 0 rfl) ?_
      refine lv_dup hx hb dX6_card_40 rfl ?_
      refine x_get (C := RX6) (T := TX6) (N := 20) hx hb hts inX6_card_X6 hown hG hw xO23 rfl 4 (by decide) (hts (.fieldLink RX6 78 "SixNumbersModel" "cards" "I") (List.mem_of_getElem? (i := 2) rfl)) (fun _ h9 => h9) (v := .int (A_5 23 4)) rfl dX6_card_41 ?_
      refine lv_iconst (v := 1) hx hb dX6_card_44 (by decide) ?_
      refine lv_iadd hx hb dX6_card_45 ?_
      refine x_put (C := RX6) (T := TX6) (N := 20) hx hb hts inX6_card_X6 tyX6 tyX6_ok nmX6 hown hG hw xO23 rfl 4 (by decide) (hts (.fieldLink RX6 78 "SixNumbersModel" "cards" "I") (List.mem_of_getElem? (i := 2) rfl)) (fun _ h9 => h9) rfl (ty := .int) (by decide +kernel) rfl rfl (Nat.le_of_ble_eq_true rfl) rfl dX6_card_46 (fun A_6 H locs eA_6 hw => ?_)
      have h := h A_6 eA_6
      refine lv_aload_n hx hb dX6_card_49 rfl (lv_at hl 0 rfl) ?_
      refine x_get (C := RX6) (T := TX6) (N := 20) hx hb hts inX6_card_X6 hown hG hw xO23 rfl 4 (by decide) (hts (.fieldLink RX6 78 "SixNumbersModel" "cards" "I") (List.mem_of_getElem? (i := 2) rfl)) (fun _ h9 => h9) (v := .int (A_6 23 4)) rfl dX6_card_50 ?_
      refine lv_iconst (v := 1) hx hb dX6_card_53 (by decide) ?_
      refine lv_isub hx hb dX6_card_54 ?_
      exact x_iret hx hb hr hlocks hG hw h dX6_card_55
    · have h := h.2 c_3
      refine lv_sipush (v := (-1004)) hx hb dX6_card_25 (by decide) ?_
      exact x_iret hx hb hr hlocks hG hw h dX6_card_28
  · have h := h.2 c_2
    refine lv_sipush (v := (-1002)) hx hb dX6_card_12 (by decide) ?_
    exact x_iret hx hb hr hlocks hG hw h dX6_card_15
theorem c_X6_card {l : Launch} {G : xGt} {x1 : Int32} {A : xM} {L : xL} {post : Int32 → xM → xL → Prop} (h : v_X6_card x1 A L post) : Met l yX6_card wsX6_card rX6_card (va_Pc [.ref (xad G 23), .int x1] (xPre G A L)) (xQi G post) 0 0 (xAf G) :=
  x_met RX6 rfl (by decide) rfl (Nat.le_of_ble_eq_true rfl) (fun p e s m below meth c ls C0 hw hl => t_X6_card_0 C0 hw hl h)
end MECH
abbrev rX6_empty : Room := { frames := 0, cells := 0, slots := 0, locals := 0 }
theorem inX6_empty_X6 : ∀ w ∈ wsX60, w ∈ wsX6_empty := fun w h => List.mem_cons_of_mem _ (List.mem_append_right _ h)
def v_X6_empty (A : xM) (L : xL) (post : Int32 → xM → xL → Prop) : Prop := ∀ x1_1 : Int32, x1_1 = (A 23 4) → (∀ A_2 : xM, A_2 = xu A 23 4 (0 : Int32) → (post x1_1 A_2 L))
section MECH
variable {p : Program} {l : Launch} {e : Env} {s : State} {m : MethodId} {args : Array Value} {below : List Frame} {meth : Method} {c : Code} {G : xGt}
set_option maxHeartbeats 4000000 in
set_option maxRecDepth 100000 in
theorem t_X6_empty_0 (C0 : xC p s m args meth c G cX6_empty (some .int) wsX6_empty RX6 2) {post : Int32 → xM → xL → Prop} {A : xM} {L : xL} {H : Heap} {locs : List Loc} {ls : Array Slot} (hw : xW G s.heap A L H locs) (hl : lv_has ls 2 [(0, .ref (xad G 23))]) (h : v_X6_empty A L post) : W p l e rX6_empty s m args below meth c H locs 0 0 (MQ below (xQi G post) args s 0 0 (xAf G)) (F0 m 0 ls []) := by
  obtain ⟨hx, hb, hr, hts, hown, hml, hlocks, hG⟩ := id C0
  unfold v_X6_empty at h
  refine lv_aload_n hx hb dX6_empty_0 rfl (lv_at hl 0 rfl) ?_
  refine x_get (C := RX6) (T := TX6) (N := 20) hx hb hts inX6_empty_X6 hown hG hw xO23 rfl 4 (by decide) (hts (.fieldLink RX6 78 "SixNumbersModel" "cards" "I") (List.mem_of_getElem? (i := 1) rfl)) (fun _ h9 => h9) (v := .int (A 23 4)) rfl dX6_empty_1 ?_
  refine lv_topi (fun x1_1 ex1_1 => ?_)
  have h := h x1_1 ex1_1
  refine lv_istore_n (lv' := [(1, .int x1_1), (0, .ref (xad G 23))]) hx hb dX6_empty_4 rfl hl (by decide) rfl (fun ls hl => ?_)
  refine lv_aload_n hx hb dX6_empty_5 rfl (lv_at hl 1 rfl) ?_
  refine lv_iconst (v := 0) hx hb dX6_empty_6 (by decide) ?_
  refine x_put (C := RX6) (T := TX6) (N := 20) hx hb hts inX6_empty_X6 tyX6 tyX6_ok nmX6 hown hG hw xO23 rfl 4 (by decide) (hts (.fieldLink RX6 78 "SixNumbersModel" "cards" "I") (List.mem_of_getElem? (i := 1) rfl)) (fun _ h9 => h9) rfl (ty := .int) (by decide +kernel) rfl rfl (Nat.le_of_ble_eq_true rfl) rfl dX6_empty_7 (fun A_2 H locs eA_2 hw => ?_)
  have h := h A_2 eA_2
  refine lv_iload_n hx hb dX6_empty_10 rfl (lv_at hl 0 rfl) ?_
  exact x_iret hx hb hr hlocks hG hw h dX6_empty_11
theorem c_X6_empty {l : Launch} {G : xGt} {A : xM} {L : xL} {post : Int32 → xM → xL → Prop} (h : v_X6_empty A L post) : Met l yX6_empty wsX6_empty rX6_empty (va_Pc [.ref (xad G 23)] (xPre G A L)) (xQi G post) 0 0 (xAf G) :=
  x_met RX6 rfl (by decide) rfl (Nat.le_of_ble_eq_true rfl) (fun p e s m below meth c ls C0 hw hl => t_X6_empty_0 C0 hw hl h)
end MECH
abbrev rX6_drawn : Room := { frames := 3, cells := 0, slots := 0, locals := 79 }
theorem inX6_drawn_X6 : ∀ w ∈ wsX60, w ∈ wsX6_drawn := fun w h => List.mem_cons_of_mem _ (List.mem_append_right _ h)
def v_X6_drawn_7 (x1 : Int32) (post : xM → xL → Prop) : Nat → Int32 → xM → xL → Prop
  | 0, _, _, _ => False
  | n + 1, x2, A, L => ((A 23 4) ≤ x2 → (v_X6_fill A L (fun (A_2 : xM) (L_3 : xL) => (post A_2 L_3)))) ∧ (¬ (A 23 4) ≤ x2 → ((¬ ((x1 >>> (x2 &&& 31)) &&& (1 : Int32)) = (1 : Int32) → (∀ x2_5 : Int32, x2_5 = x2 + (1 : Int32) → (v_X6_drawn_7 x1 post n x2_5 A L))) ∧ (((x1 >>> (x2 &&& 31)) &&& (1 : Int32)) = (1 : Int32) → (vp_in x2 10 ∧ (vp_in (A 23 9) 6 ∧ (∀ A_8 : xM, A_8 = xu A 27 (A 23 9).toNatClampNeg (A 25 x2.toNatClampNeg) → (∀ A_9 : xM, A_9 = xu A_8 23 9 ((A_8 23 9) + (1 : Int32)) → (∀ x2_10 : Int32, x2_10 = x2 + (1 : Int32) → (v_X6_drawn_7 x1 post n x2_10 A_9 L)))))))))
def v_X6_drawn (x1 : Int32) (A : xM) (L : xL) (post : xM → xL → Prop) : Prop := ∀ A_1 : xM, A_1 = xu A 23 9 (0 : Int32) → (∃ k9 : Nat, v_X6_drawn_7 x1 post k9 (0 : Int32) A_1 L)
section MECH
variable {p : Program} {l : Launch} {e : Env} {s : State} {m : MethodId} {args : Array Value} {below : List Frame} {meth : Method} {c : Code} {G : xGt}
set_option maxHeartbeats 4000000 in
set_option maxRecDepth 100000 in
theorem t_X6_drawn_7 (C0 : xC p s m args meth c G cX6_drawn none wsX6_drawn RX6 3) {post : xM → xL → Prop} {x1 : Int32} : ∀ (n : Nat) (x2 : Int32) (A : xM) (L : xL) (H : Heap) (locs : List Loc) (ls : Array Slot), xW G s.heap A L H locs → lv_has ls 3 [(0, .ref (xad G 23)), (1, .int x1), (2, .int x2)] → v_X6_drawn_7 x1 post n x2 A L → W p l e rX6_drawn s m args below meth c H locs 0 0 (MQ below (xQv G post) args s 0 0 (xAf G)) (F0 m 7 ls []) := by
  obtain ⟨hx, hb, hr, hts, hown, hml, hlocks, hG⟩ := id C0
  intro n
  induction n with
  | zero => intro x2 A L H locs ls hw hl h; exact (show False from h).elim
  | succ n ih =>
    intro x2 A L H locs ls hw hl h
    unfold v_X6_drawn_7 at h
    refine lv_iload_n hx hb dX6_drawn_7 rfl (lv_at hl 2 rfl) ?_
    refine lv_aload_n hx hb dX6_drawn_8 rfl (lv_at hl 0 rfl) ?_
    refine x_get (C := RX6) (T := TX6) (N := 20) hx hb hts inX6_drawn_X6 hown hG hw xO23 rfl 4 (by decide) (hts (.fieldLink RX6 78 "SixNumbersModel" "cards" "I") (List.mem_of_getElem? (i := 2) rfl)) (fun _ h9 => h9) (v := .int (A 23 4)) rfl dX6_drawn_9 ?_
    refine lv_icmp_ge (tgt := 55) hx hb dX6_drawn_12 (by decide) (fun c_1 => ?_) (fun c_1 => ?_)
    · have h := h.1 c_1
      refine lv_aload_n hx hb dX6_drawn_55 rfl (lv_at hl 0 rfl) ?_
      refine x_callv hG hw (va_runV (As := []) (rest := []) ⟨hx, hb, hml, hown, hts⟩ (c_X6_fill (l := l) (G := G) h) (cwV 0 hts gX6_drawn_X6_fill rfl rfl rfl (by decide +kernel) ⟨Nat.le_of_ble_eq_true rfl, Nat.le_of_ble_eq_true rfl⟩) (x_preV hG hw xO23 rfl) rfl rfl hl.1 rfl (lv_room (Nat.le_of_ble_eq_true rfl)) dX6_drawn_56 ⟨Nat.le_of_ble_eq_true rfl, Nat.le_of_ble_eq_true rfl⟩) (fun A_2 L_3 H locs hw h => ?_)
      exact x_vret hx hb hr hlocks hG hw h dX6_drawn_59
    · have h := h.2 c_1
      refine lv_iload_n hx hb dX6_drawn_15 rfl (lv_at hl 1 rfl) ?_
      refine lv_iload_n hx hb dX6_drawn_16 rfl (lv_at hl 2 rfl) ?_
      refine lv_ishr hx hb dX6_drawn_17 ?_
      refine lv_iconst (v := 1) hx hb dX6_drawn_18 (by decide) ?_
      refine lv_iand hx hb dX6_drawn_19 ?_
      refine lv_iconst (v := 1) hx hb dX6_drawn_20 (by decide) ?_
      refine lv_icmp_ne (tgt := 49) hx hb dX6_drawn_21 (by decide) (fun c_4 => ?_) (fun c_4 => ?_)
      · have h := h.1 c_4
        obtain ⟨x2_5, ex2_5⟩ : ∃ y : Int32, y = x2 + (1 : Int32) := ⟨_, rfl⟩
        have h := h x2_5 ex2_5
        refine lv_iinc (v := x2_5) (lv' := [(2, .int x2_5), (0, .ref (xad G 23)), (1, .int x1)]) hx hb dX6_drawn_49 hl (k := 2) rfl (by rw [ex2_5]; rfl) (by decide) rfl (fun ls hl => ?_)
        refine lv_goto (tgt := 7) hx hb dX6_drawn_52 (by decide) ?_
        exact ih x2_5 A L _ _ _ hw (lv_sub hl [1, 2, 0] rfl) h
      · have h := h.2 c_4
        refine lv_aload_n hx hb dX6_drawn_24 rfl (lv_at hl 0 rfl) ?_
        refine x_get (C := RX6) (T := TX6) (N := 20) hx hb hts inX6_drawn_X6 hown hG hw xO23 rfl 8 (by decide) (hts (.fieldLink RX6 26 "SixNumbersModel" "work" "[I") (List.mem_of_getElem? (i := 3) rfl)) (fun _ h9 => h9) (v := .ref (xad G 27)) rfl dX6_drawn_25 ?_
        refine lv_aload_n hx hb dX6_drawn_28 rfl (lv_at hl 0 rfl) ?_
        refine x_get (C := RX6) (T := TX6) (N := 20) hx hb hts inX6_drawn_X6 hown hG hw xO23 rfl 9 (by decide) (hts (.fieldLink RX6 96 "SixNumbersModel" "works" "I") (List.mem_of_getElem? (i := 1) rfl)) (fun _ h9 => h9) (v := .int (A 23 9)) rfl dX6_drawn_29 ?_
        refine lv_aload_n hx hb dX6_drawn_32 rfl (lv_at hl 0 rfl) ?_
        refine x_get (C := RX6) (T := TX6) (N := 20) hx hb hts inX6_drawn_X6 hown hG hw xO23 rfl 5 (by decide) (hts (.fieldLink RX6 20 "SixNumbersModel" "box" "[I") (List.mem_of_getElem? (i := 4) rfl)) (fun _ h9 => h9) (v := .ref (xad G 25)) rfl dX6_drawn_33 ?_
        refine lv_iload_n hx hb dX6_drawn_36 rfl (lv_at hl 2 rfl) ?_
        have i_6 := h.1
        have h := h.2
        refine x_iald hx hb hG hw xb25 i_6 dX6_drawn_37 ?_
        have i_7 := h.1
        have h := h.2
        refine x_iast hx hb hG hw xb27 i_7 dX6_drawn_38 (fun A_8 H locs eA_8 hw => ?_)
        have h := h A_8 eA_8
        refine lv_aload_n hx hb dX6_drawn_39 rfl (lv_at hl 0 rfl) ?_
        refine lv_dup hx hb dX6_drawn_40 rfl ?_
        refine x_get (C := RX6) (T := TX6) (N := 20) hx hb hts inX6_drawn_X6 hown hG hw xO23 rfl 9 (by decide) (hts (.fieldLink RX6 96 "SixNumbersModel" "works" "I") (List.mem_of_getElem? (i := 1) rfl)) (fun _ h9 => h9) (v := .int (A_8 23 9)) rfl dX6_drawn_41 ?_
        refine lv_iconst (v := 1) hx hb dX6_drawn_44 (by decide) ?_
        refine lv_iadd hx hb dX6_drawn_45 ?_
        refine x_put (C := RX6) (T := TX6) (N := 20) hx hb hts inX6_drawn_X6 tyX6 tyX6_ok nmX6 hown hG hw xO23 rfl 9 (by decide) (hts (.fieldLink RX6 96 "SixNumbersModel" "works" "I") (List.mem_of_getElem? (i := 1) rfl)) (fun _ h9 => h9) rfl (ty := .int) (by decide +kernel) rfl rfl (Nat.le_of_ble_eq_true rfl) rfl dX6_drawn_46 (fun A_9 H locs eA_9 hw => ?_)
        have h := h A_9 eA_9
        obtain ⟨x2_10, ex2_10⟩ : ∃ y : Int32, y = x2 + (1 : Int32) := ⟨_, rfl⟩
        have h := h x2_10 ex2_10
        refine lv_iinc (v := x2_10) (lv' := [(2, .int x2_10), (0, .ref (xad G 23)), (1, .int x1)]) hx hb dX6_drawn_49 hl (k := 2) rfl (by rw [ex2_10]; rfl) (by decide) rfl (fun ls hl => ?_)
        refine lv_goto (tgt := 7) hx hb dX6_drawn_52 (by decide) ?_
        exact ih x2_10 A_9 L _ _ _ hw (lv_sub hl [1, 2, 0] rfl) h
set_option maxHeartbeats 4000000 in
set_option maxRecDepth 100000 in
theorem t_X6_drawn_0 (C0 : xC p s m args meth c G cX6_drawn none wsX6_drawn RX6 3) {post : xM → xL → Prop} {x1 : Int32} {A : xM} {L : xL} {H : Heap} {locs : List Loc} {ls : Array Slot} (hw : xW G s.heap A L H locs) (hl : lv_has ls 3 [(0, .ref (xad G 23)), (1, .int x1)]) (h : v_X6_drawn x1 A L post) : W p l e rX6_drawn s m args below meth c H locs 0 0 (MQ below (xQv G post) args s 0 0 (xAf G)) (F0 m 0 ls []) := by
  obtain ⟨hx, hb, hr, hts, hown, hml, hlocks, hG⟩ := id C0
  unfold v_X6_drawn at h
  refine lv_aload_n hx hb dX6_drawn_0 rfl (lv_at hl 0 rfl) ?_
  refine lv_iconst (v := 0) hx hb dX6_drawn_1 (by decide) ?_
  refine x_put (C := RX6) (T := TX6) (N := 20) hx hb hts inX6_drawn_X6 tyX6 tyX6_ok nmX6 hown hG hw xO23 rfl 9 (by decide) (hts (.fieldLink RX6 96 "SixNumbersModel" "works" "I") (List.mem_of_getElem? (i := 1) rfl)) (fun _ h9 => h9) rfl (ty := .int) (by decide +kernel) rfl rfl (Nat.le_of_ble_eq_true rfl) rfl dX6_drawn_2 (fun A_1 H locs eA_1 hw => ?_)
  have h := h A_1 eA_1
  refine lv_iconst (v := 0) hx hb dX6_drawn_5 (by decide) ?_
  refine lv_istore_n (lv' := [(2, .int (0 : Int32)), (0, .ref (xad G 23)), (1, .int x1)]) hx hb dX6_drawn_6 rfl hl (by decide) rfl (fun ls hl => ?_)
  obtain ⟨n9, h⟩ := h
  exact t_X6_drawn_7 C0 n9 (0 : Int32) A_1 L _ _ _ hw (lv_sub hl [1, 2, 0] rfl) h
theorem c_X6_drawn {l : Launch} {G : xGt} {x1 : Int32} {A : xM} {L : xL} {post : xM → xL → Prop} (h : v_X6_drawn x1 A L post) : Met l yX6_drawn wsX6_drawn rX6_drawn (va_Pc [.ref (xad G 23), .int x1] (xPre G A L)) (xQv G post) 0 0 (xAf G) :=
  x_met RX6 rfl (by decide) rfl (Nat.le_of_ble_eq_true rfl) (fun p e s m below meth c ls C0 hw hl => t_X6_drawn_0 C0 hw hl h)
end MECH
abbrev rX6_common : Room := { frames := 0, cells := 0, slots := 0, locals := 0 }
def v_X6_common_4 (post : Int32 → Prop) : Nat → Int32 → Int32 → Prop
  | 0, _, _ => False
  | n + 1, x2, x3 => (x3 = 0 → (post x2)) ∧ (¬ x3 = 0 → (¬ x3 = 0 ∧ (∀ x4_3 : Int32, x4_3 = (x2 - x2 / x3 * x3) → (v_X6_common_4 post n x3 x4_3))))
def v_X6_common (x0 : Int32) (x1 : Int32) (post : Int32 → Prop) : Prop := ∃ k9 : Nat, v_X6_common_4 post k9 x0 x1
section MECH
variable {p : Program} {l : Launch} {e : Env} {s : State} {m : MethodId} {args : Array Value} {below : List Frame} {meth : Method} {c : Code} {G : xGt}
set_option maxHeartbeats 4000000 in
set_option maxRecDepth 100000 in
theorem t_X6_common_4 (C0 : xC p s m args meth c G cX6_common (some .int) wsX6_common RX6 5) {post : Int32 → Prop} {A : xM} {L : xL} : ∀ (n : Nat) (x2 : Int32) (x3 : Int32) (H : Heap) (locs : List Loc) (ls : Array Slot), xW G s.heap A L H locs → lv_has ls 5 [(2, .int x2), (3, .int x3)] → v_X6_common_4 post n x2 x3 → W p l e rX6_common s m args below meth c H locs 0 0 (MQ below (xQi G (xpi A L post)) args s 0 0 (xAf G)) (F0 m 4 ls []) := by
  obtain ⟨hx, hb, hr, hts, hown, hml, hlocks, hG⟩ := id C0
  intro n
  induction n with
  | zero => intro x2 x3 H locs ls hw hl h; exact (show False from h).elim
  | succ n ih =>
    intro x2 x3 H locs ls hw hl h
    unfold v_X6_common_4 at h
    refine lv_iload_n hx hb dX6_common_4 rfl (lv_at hl 1 rfl) ?_
    refine lv_if_eq (tgt := 21) hx hb dX6_common_5 (by decide) (fun c_1 => ?_) (fun c_1 => ?_)
    · have h := h.1 c_1
      refine lv_iload_n hx hb dX6_common_21 rfl (lv_at hl 0 rfl) ?_
      exact x_iret hx hb hr hlocks hG hw ⟨h, rfl, rfl⟩ dX6_common_22
    · have h := h.2 c_1
      refine lv_iload_n hx hb dX6_common_8 rfl (lv_at hl 0 rfl) ?_
      refine lv_iload_n hx hb dX6_common_9 rfl (lv_at hl 1 rfl) ?_
      have z_2 := h.1
      have h := h.2
      refine lv_irem hx hb dX6_common_10 z_2 ?_
      refine lv_topi (fun x4_3 ex4_3 => ?_)
      have h := h x4_3 ex4_3
      refine lv_istore (lv' := [(4, .int x4_3), (2, .int x2), (3, .int x3)]) hx hb dX6_common_11 hl (by decide) rfl (fun ls hl => ?_)
      refine lv_iload_n hx hb dX6_common_13 rfl (lv_at hl 2 rfl) ?_
      refine lv_istore_n (lv' := [(2, .int x3), (4, .int x4_3), (3, .int x3)]) hx hb dX6_common_14 rfl hl (by decide) rfl (fun ls hl => ?_)
      refine lv_iload hx hb dX6_common_15 (lv_at hl 1 rfl) ?_
      refine lv_istore_n (lv' := [(3, .int x4_3), (2, .int x3), (4, .int x4_3)]) hx hb dX6_common_17 rfl hl (by decide) rfl (fun ls hl => ?_)
      refine lv_goto (tgt := 4) hx hb dX6_common_18 (by decide) ?_
      exact ih x3 x4_3 _ _ _ hw (lv_sub hl [1, 0] rfl) h
set_option maxHeartbeats 4000000 in
set_option maxRecDepth 100000 in
theorem t_X6_common_0 (C0 : xC p s m args meth c G cX6_common (some .int) wsX6_common RX6 5) {post : Int32 → Prop} {x0 : Int32} {x1 : Int32} {A : xM} {L : xL} {H : Heap} {locs : List Loc} {ls : Array Slot} (hw : xW G s.heap A L H locs) (hl : lv_has ls 5 [(0, .int x0), (1, .int x1)]) (h : v_X6_common x0 x1 post) : W p l e rX6_common s m args below meth c H locs 0 0 (MQ below (xQi G (xpi A L post)) args s 0 0 (xAf G)) (F0 m 0 ls []) := by
  obtain ⟨hx, hb, hr, hts, hown, hml, hlocks, hG⟩ := id C0
  unfold v_X6_common at h
  refine lv_iload_n hx hb dX6_common_0 rfl (lv_at hl 0 rfl) ?_
  refine lv_istore_n (lv' := [(2, .int x0), (0, .int x0), (1, .int x1)]) hx hb dX6_common_1 rfl hl (by decide) rfl (fun ls hl => ?_)
  refine lv_iload_n hx hb dX6_common_2 rfl (lv_at hl 2 rfl) ?_
  refine lv_istore_n (lv' := [(3, .int x1), (2, .int x0), (0, .int x0), (1, .int x1)]) hx hb dX6_common_3 rfl hl (by decide) rfl (fun ls hl => ?_)
  obtain ⟨n9, h⟩ := h
  exact t_X6_common_4 C0 n9 x0 x1 _ _ _ hw (lv_sub hl [1, 0] rfl) h
theorem c_X6_common {l : Launch} {G : xGt} {x0 : Int32} {x1 : Int32} {A : xM} {L : xL} {post : Int32 → Prop} (h : v_X6_common x0 x1 post) : Met l yX6_common wsX6_common rX6_common (va_Pc [.int x0, .int x1] (xPre G A L)) (xQi G (xpi A L post)) 0 0 (xAf G) :=
  x_met RX6 rfl (by decide) rfl (Nat.le_of_ble_eq_true rfl) (fun p e s m below meth c ls C0 hw hl => t_X6_common_0 C0 hw hl h)
end MECH
abbrev rX6_draws : Room := { frames := 4, cells := 0, slots := 0, locals := 101 }
theorem inX6_draws_X6 : ∀ w ∈ wsX60, w ∈ wsX6_draws := fun w h => List.mem_cons_of_mem _ (List.mem_append_right _ h)
def v_X6_draws_49 (x1 : Int32) (x2 : Int32) (x3 : Int32) (post : Int32 → xM → xL → Prop) : Nat → Int32 → Int32 → Int32 → xM → xL → Prop
  | 0, _, _, _, _, _ => False
  | n + 1, x4, x5, x6, A, L => (((1 : Int32) <<< ((A 23 4) &&& 31)) ≤ x6 → (((2 : Int32) ≤ x3 → (v_X6_common x5 x4 (fun (r_3 : Int32) => ((¬ x4 = 0 → ((¬ x3 = (2 : Int32) → (¬ r_3 = 0 ∧ (post (x4 / r_3) A L))) ∧ (x3 = (2 : Int32) → (¬ r_3 = 0 ∧ (post (x5 / r_3) A L))))) ∧ (x4 = 0 → (post (x3 - (2 : Int32)) A L)))))) ∧ (¬ (2 : Int32) ≤ x3 → ((¬ x3 = 0 → (post x5 A L)) ∧ (x3 = 0 → (post x4 A L)))))) ∧ (¬ ((1 : Int32) <<< ((A 23 4) &&& 31)) ≤ x6 → (v_X6_bits x6 (fun (r_9 : Int32) => ((¬ r_9 = x1 → (∀ x6_11 : Int32, x6_11 = x6 + (1 : Int32) → (v_X6_draws_49 x1 x2 x3 post n x4 x5 x6_11 A L))) ∧ (r_9 = x1 → (∀ x4_12 : Int32, x4_12 = x4 + (1 : Int32) → ((x3 ≤ 0 → (∀ x6_14 : Int32, x6_14 = x6 + (1 : Int32) → (v_X6_draws_49 x1 x2 x3 post n x4_12 x5 x6_14 A L))) ∧ (¬ x3 ≤ 0 → (v_X6_drawn x6 A L (fun (A_15 : xM) (L_16 : xL) => (v_X6_isReached x2 A_15 L_16 (fun (r_17 : Int32) => ((r_17 = 0 → (∀ x5_19 : Int32, x5_19 = (x5 + (0 : Int32)) → (∀ x6_20 : Int32, x6_20 = x6 + (1 : Int32) → (v_X6_draws_49 x1 x2 x3 post n x4_12 x5_19 x6_20 A_15 L_16)))) ∧ (¬ r_17 = 0 → (∀ x5_21 : Int32, x5_21 = (x5 + (1 : Int32)) → (∀ x6_22 : Int32, x6_22 = x6 + (1 : Int32) → (v_X6_draws_49 x1 x2 x3 post n x4_12 x5_21 x6_22 A_15 L_16)))))))))))))))))
def v_X6_draws (x1 : Int32) (x2 : Int32) (x3 : Int32) (A : xM) (L : xL) (post : Int32 → xM → xL → Prop) : Prop := v_X6_in (x1).toInt64 (1 : Int64) (4 : Int64) (fun (r_1 : Int32) => ((r_1 = 0 → (post (-1002 : Int32) A L)) ∧ (¬ r_1 = 0 → (v_X6_in (x2).toInt64 (1 : Int64) (3000 : Int64) (fun (r_3 : Int32) => ((r_3 = 0 → (post (-1002 : Int32) A L)) ∧ (¬ r_3 = 0 → (v_X6_in (x3).toInt64 (0 : Int64) (3 : Int64) (fun (r_5 : Int32) => ((¬ r_5 = 0 → (∃ k9 : Nat, v_X6_draws_49 x1 x2 x3 post k9 (0 : Int32) (0 : Int32) (0 : Int32) A L)) ∧ (r_5 = 0 → (post (-1002 : Int32) A L))))))))))))
section MECH
variable {p : Program} {l : Launch} {e : Env} {s : State} {m : MethodId} {args : Array Value} {below : List Frame} {meth : Method} {c : Code} {G : xGt}
set_option maxHeartbeats 4000000 in
set_option maxRecDepth 100000 in
theorem t_X6_draws_49 (C0 : xC p s m args meth c G cX6_draws (some .int) wsX6_draws RX6 7) {post : Int32 → xM → xL → Prop} {x1 : Int32} {x2 : Int32} {x3 : Int32} : ∀ (n : Nat) (x4 : Int32) (x5 : Int32) (x6 : Int32) (A : xM) (L : xL) (H : Heap) (locs : List Loc) (ls : Array Slot), xW G s.heap A L H locs → lv_has ls 7 [(0, .ref (xad G 23)), (1, .int x1), (2, .int x2), (3, .int x3), (4, .int x4), (5, .int x5), (6, .int x6)] → v_X6_draws_49 x1 x2 x3 post n x4 x5 x6 A L → W p l e rX6_draws s m args below meth c H locs 0 0 (MQ below (xQi G post) args s 0 0 (xAf G)) (F0 m 49 ls []) := by
  obtain ⟨hx, hb, hr, hts, hown, hml, hlocks, hG⟩ := id C0
  intro n
  induction n with
  | zero => intro x4 x5 x6 A L H locs ls hw hl h; exact (show False from h).elim
  | succ n ih =>
    intro x4 x5 x6 A L H locs ls hw hl h
    unfold v_X6_draws_49 at h
    refine lv_iload hx hb dX6_draws_49 (lv_at hl 6 rfl) ?_
    refine lv_iconst (v := 1) hx hb dX6_draws_51 (by decide) ?_
    refine lv_aload_n hx hb dX6_draws_52 rfl (lv_at hl 0 rfl) ?_
    refine x_get (C := RX6) (T := TX6) (N := 20) hx hb hts inX6_draws_X6 hown hG hw xO23 rfl 4 (by decide) (hts (.fieldLink RX6 78 "SixNumbersModel" "cards" "I") (List.mem_of_getElem? (i := 4) rfl)) (fun _ h9 => h9) (v := .int (A 23 4)) rfl dX6_draws_53 ?_
    refine lv_ishl hx hb dX6_draws_56 ?_
    refine lv_icmp_ge (tgt := 106) hx hb dX6_draws_57 (by decide) (fun c_1 => ?_) (fun c_1 => ?_)
    · have h := h.1 c_1
      refine lv_iload_n hx hb dX6_draws_106 rfl (lv_at hl 3 rfl) ?_
      refine lv_iconst (v := 2) hx hb dX6_draws_107 (by decide) ?_
      refine lv_icmp_ge (tgt := 123) hx hb dX6_draws_108 (by decide) (fun c_2 => ?_) (fun c_2 => ?_)
      · have h := h.1 c_2
        refine lv_iload hx hb dX6_draws_123 (lv_at hl 5 rfl) ?_
        refine lv_iload hx hb dX6_draws_125 (lv_at hl 4 rfl) ?_
        refine x_calli hG hw (va_runS (As := [.int x5, .int x4]) (rest := []) ⟨hx, hb, hml, hown, hts⟩ (c_X6_common (l := l) (G := G) h) (va_cwS 2 hts gX6_draws_X6_common rfl rfl rfl (by decide +kernel) ⟨Nat.le_of_ble_eq_true rfl, Nat.le_of_ble_eq_true rfl⟩) (x_preS hG hw) rfl rfl hl.1 rfl (lv_room (Nat.le_of_ble_eq_true rfl)) dX6_draws_127 ⟨Nat.le_of_ble_eq_true rfl, Nat.le_of_ble_eq_true rfl⟩) (fun r_3 A9 L9 H locs hw h => ?_)
        rw [h.2.1, h.2.2] at hw
        have h := h.1
        refine lv_istore (lv' := [(6, .int r_3), (0, .ref (xad G 23)), (1, .int x1), (2, .int x2), (3, .int x3), (4, .int x4), (5, .int x5)]) hx hb dX6_draws_130 hl (by decide) rfl (fun ls hl => ?_)
        refine lv_iload hx hb dX6_draws_132 (lv_at hl 5 rfl) ?_
        refine lv_if_ne (tgt := 143) hx hb dX6_draws_134 (by decide) (fun c_4 => ?_) (fun c_4 => ?_)
        · have h := h.1 c_4
          refine lv_iload_n hx hb dX6_draws_143 rfl (lv_at hl 4 rfl) ?_
          refine lv_iconst (v := 2) hx hb dX6_draws_144 (by decide) ?_
          refine lv_icmp_ne (tgt := 156) hx hb dX6_draws_145 (by decide) (fun c_5 => ?_) (fun c_5 => ?_)
          · have h := h.1 c_5
            refine lv_iload hx hb dX6_draws_156 (lv_at hl 5 rfl) ?_
            refine lv_iload hx hb dX6_draws_158 (lv_at hl 0 rfl) ?_
            have z_6 := h.1
            have h := h.2
            refine lv_idiv hx hb dX6_draws_160 z_6 ?_
            exact x_iret hx hb hr hlocks hG hw h dX6_draws_161
          · have h := h.2 c_5
            refine lv_iload hx hb dX6_draws_148 (lv_at hl 6 rfl) ?_
            refine lv_iload hx hb dX6_draws_150 (lv_at hl 0 rfl) ?_
            have z_7 := h.1
            have h := h.2
            refine lv_idiv hx hb dX6_draws_152 z_7 ?_
            refine lv_goto (tgt := 161) hx hb dX6_draws_153 (by decide) ?_
            exact x_iret hx hb hr hlocks hG hw h dX6_draws_161
        · have h := h.2 c_4
          refine lv_iload_n hx hb dX6_draws_137 rfl (lv_at hl 4 rfl) ?_
          refine lv_iconst (v := 2) hx hb dX6_draws_138 (by decide) ?_
          refine lv_isub hx hb dX6_draws_139 ?_
          refine lv_goto (tgt := 161) hx hb dX6_draws_140 (by decide) ?_
          exact x_iret hx hb hr hlocks hG hw h dX6_draws_161
      · have h := h.2 c_2
        refine lv_iload_n hx hb dX6_draws_111 rfl (lv_at hl 3 rfl) ?_
        refine lv_if_ne (tgt := 120) hx hb dX6_draws_112 (by decide) (fun c_8 => ?_) (fun c_8 => ?_)
        · have h := h.1 c_8
          refine lv_iload hx hb dX6_draws_120 (lv_at hl 5 rfl) ?_
          exact x_iret hx hb hr hlocks hG hw h dX6_draws_122
        · have h := h.2 c_8
          refine lv_iload hx hb dX6_draws_115 (lv_at hl 4 rfl) ?_
          refine lv_goto (tgt := 122) hx hb dX6_draws_117 (by decide) ?_
          exact x_iret hx hb hr hlocks hG hw h dX6_draws_122
    · have h := h.2 c_1
      refine lv_iload hx hb dX6_draws_60 (lv_at hl 6 rfl) ?_
      refine x_calli hG hw (va_runS (As := [.int x6]) (rest := []) ⟨hx, hb, hml, hown, hts⟩ (c_X6_bits (l := l) (G := G) h) (va_cwS 1 hts gX6_draws_X6_bits rfl rfl rfl (by decide +kernel) ⟨Nat.le_of_ble_eq_true rfl, Nat.le_of_ble_eq_true rfl⟩) (x_preS hG hw) rfl rfl hl.1 rfl (lv_room (Nat.le_of_ble_eq_true rfl)) dX6_draws_62 ⟨Nat.le_of_ble_eq_true rfl, Nat.le_of_ble_eq_true rfl⟩) (fun r_9 A9 L9 H locs hw h => ?_)
      rw [h.2.1, h.2.2] at hw
      have h := h.1
      refine lv_iload_n hx hb dX6_draws_65 rfl (lv_at hl 1 rfl) ?_
      refine lv_icmp_ne (tgt := 100) hx hb dX6_draws_66 (by decide) (fun c_10 => ?_) (fun c_10 => ?_)
      · have h := h.1 c_10
        obtain ⟨x6_11, ex6_11⟩ : ∃ y : Int32, y = x6 + (1 : Int32) := ⟨_, rfl⟩
        have h := h x6_11 ex6_11
        refine lv_iinc (v := x6_11) (lv' := [(6, .int x6_11), (0, .ref (xad G 23)), (1, .int x1), (2, .int x2), (3, .int x3), (4, .int x4), (5, .int x5)]) hx hb dX6_draws_100 hl (k := 6) rfl (by rw [ex6_11]; rfl) (by decide) rfl (fun ls hl => ?_)
        refine lv_goto (tgt := 49) hx hb dX6_draws_103 (by decide) ?_
        exact ih x4 x5 x6_11 A L _ _ _ hw (lv_sub hl [1, 2, 3, 4, 5, 6, 0] rfl) h
      · have h := h.2 c_10
        obtain ⟨x4_12, ex4_12⟩ : ∃ y : Int32, y = x4 + (1 : Int32) := ⟨_, rfl⟩
        have h := h x4_12 ex4_12
        refine lv_iinc (v := x4_12) (lv' := [(4, .int x4_12), (0, .ref (xad G 23)), (1, .int x1), (2, .int x2), (3, .int x3), (5, .int x5), (6, .int x6)]) hx hb dX6_draws_69 hl (k := 4) rfl (by rw [ex4_12]; rfl) (by decide) rfl (fun ls hl => ?_)
        refine lv_iload_n hx hb dX6_draws_72 rfl (lv_at hl 4 rfl) ?_
        refine lv_if_le (tgt := 100) hx hb dX6_draws_73 (by decide) (fun c_13 => ?_) (fun c_13 => ?_)
        · have h := h.1 c_13
          obtain ⟨x6_14, ex6_14⟩ : ∃ y : Int32, y = x6 + (1 : Int32) := ⟨_, rfl⟩
          have h := h x6_14 ex6_14
          refine lv_iinc (v := x6_14) (lv' := [(6, .int x6_14), (4, .int x4_12), (0, .ref (xad G 23)), (1, .int x1), (2, .int x2), (3, .int x3), (5, .int x5)]) hx hb dX6_draws_100 hl (k := 6) rfl (by rw [ex6_14]; rfl) (by decide) rfl (fun ls hl => ?_)
          refine lv_goto (tgt := 49) hx hb dX6_draws_103 (by decide) ?_
          exact ih x4_12 x5 x6_14 A L _ _ _ hw (lv_sub hl [2, 3, 4, 5, 1, 6, 0] rfl) h
        · have h := h.2 c_13
          refine lv_aload_n hx hb dX6_draws_76 rfl (lv_at hl 1 rfl) ?_
          refine lv_iload hx hb dX6_draws_77 (lv_at hl 6 rfl) ?_
          refine x_callv hG hw (va_runV (As := [.int x6]) (rest := []) ⟨hx, hb, hml, hown, hts⟩ (c_X6_drawn (l := l) (G := G) h) (cwV 1 hts gX6_draws_X6_drawn rfl rfl rfl (by decide +kernel) ⟨Nat.le_of_ble_eq_true rfl, Nat.le_of_ble_eq_true rfl⟩) (x_preV hG hw xO23 rfl) rfl rfl hl.1 rfl (lv_room (Nat.le_of_ble_eq_true rfl)) dX6_draws_79 ⟨Nat.le_of_ble_eq_true rfl, Nat.le_of_ble_eq_true rfl⟩) (fun A_15 L_16 H locs hw h => ?_)
          refine lv_iload hx hb dX6_draws_82 (lv_at hl 5 rfl) ?_
          refine lv_aload_n hx hb dX6_draws_84 rfl (lv_at hl 1 rfl) ?_
          refine lv_iload_n hx hb dX6_draws_85 rfl (lv_at hl 3 rfl) ?_
          refine x_calli hG hw (va_runV (As := [.int x2]) (rest := [.int x5]) ⟨hx, hb, hml, hown, hts⟩ (c_X6_isReached (l := l) (G := G) h) (cwV 1 hts gX6_draws_X6_isReached rfl rfl rfl (by decide +kernel) ⟨Nat.le_of_ble_eq_true rfl, Nat.le_of_ble_eq_true rfl⟩) (x_preV hG hw xO23 rfl) rfl rfl hl.1 rfl (lv_room (Nat.le_of_ble_eq_true rfl)) dX6_draws_86 ⟨Nat.le_of_ble_eq_true rfl, Nat.le_of_ble_eq_true rfl⟩) (fun r_17 A9 L9 H locs hw h => ?_)
          rw [h.2.1, h.2.2] at hw
          have h := h.1
          refine lv_if_eq (tgt := 96) hx hb dX6_draws_89 (by decide) (fun c_18 => ?_) (fun c_18 => ?_)
          · have h := h.1 c_18
            refine lv_iconst (v := 0) hx hb dX6_draws_96 (by decide) ?_
            refine lv_iadd hx hb dX6_draws_97 ?_
            refine lv_topi (fun x5_19 ex5_19 => ?_)
            have h := h x5_19 ex5_19
            refine lv_istore (lv' := [(5, .int x5_19), (4, .int x4_12), (0, .ref (xad G 23)), (1, .int x1), (2, .int x2), (3, .int x3), (6, .int x6)]) hx hb dX6_draws_98 hl (by decide) rfl (fun ls hl => ?_)
            obtain ⟨x6_20, ex6_20⟩ : ∃ y : Int32, y = x6 + (1 : Int32) := ⟨_, rfl⟩
            have h := h x6_20 ex6_20
            refine lv_iinc (v := x6_20) (lv' := [(6, .int x6_20), (5, .int x5_19), (4, .int x4_12), (0, .ref (xad G 23)), (1, .int x1), (2, .int x2), (3, .int x3)]) hx hb dX6_draws_100 hl (k := 6) rfl (by rw [ex6_20]; rfl) (by decide) rfl (fun ls hl => ?_)
            refine lv_goto (tgt := 49) hx hb dX6_draws_103 (by decide) ?_
            exact ih x4_12 x5_19 x6_20 A_15 L_16 _ _ _ hw (lv_sub hl [3, 4, 5, 6, 2, 1, 0] rfl) h
          · have h := h.2 c_18
            refine lv_iconst (v := 1) hx hb dX6_draws_92 (by decide) ?_
            refine lv_goto (tgt := 97) hx hb dX6_draws_93 (by decide) ?_
            refine lv_iadd hx hb dX6_draws_97 ?_
            refine lv_topi (fun x5_21 ex5_21 => ?_)
            have h := h x5_21 ex5_21
            refine lv_istore (lv' := [(5, .int x5_21), (4, .int x4_12), (0, .ref (xad G 23)), (1, .int x1), (2, .int x2), (3, .int x3), (6, .int x6)]) hx hb dX6_draws_98 hl (by decide) rfl (fun ls hl => ?_)
            obtain ⟨x6_22, ex6_22⟩ : ∃ y : Int32, y = x6 + (1 : Int32) := ⟨_, rfl⟩
            have h := h x6_22 ex6_22
            refine lv_iinc (v := x6_22) (lv' := [(6, .int x6_22), (5, .int x5_21), (4, .int x4_12), (0, .ref (xad G 23)), (1, .int x1), (2, .int x2), (3, .int x3)]) hx hb dX6_draws_100 hl (k := 6) rfl (by rw [ex6_22]; rfl) (by decide) rfl (fun ls hl => ?_)
            refine lv_goto (tgt := 49) hx hb dX6_draws_103 (by decide) ?_
            exact ih x4_12 x5_21 x6_22 A_15 L_16 _ _ _ hw (lv_sub hl [3, 4, 5, 6, 2, 1, 0] rfl) h
set_option maxHeartbeats 4000000 in
set_option maxRecDepth 100000 in
theorem t_X6_draws_0 (C0 : xC p s m args meth c G cX6_draws (some .int) wsX6_draws RX6 7) {post : Int32 → xM → xL → Prop} {x1 : Int32} {x2 : Int32} {x3 : Int32} {A : xM} {L : xL} {H : Heap} {locs : List Loc} {ls : Array Slot} (hw : xW G s.heap A L H locs) (hl : lv_has ls 7 [(0, .ref (xad G 23)), (1, .int x1), (2, .int x2), (3, .int x3)]) (h : v_X6_draws x1 x2 x3 A L post) : W p l e rX6_draws s m args below meth c H locs 0 0 (MQ below (xQi G post) args s 0 0 (xAf G)) (F0 m 0 ls []) := by
  obtain ⟨hx, hb, hr, hts, hown, hml, hlocks, hG⟩ := id C0
  unfold v_X6_draws at h
  refine lv_iload_n hx hb dX6_draws_0 rfl (lv_at hl 1 rfl) ?_
  refine lv_i2l hx hb dX6_draws_1 rfl ?_
  refine lv_lconst (v := 1) hx hb dX6_draws_2 (by decide) ?_
  refine lv_ldc2 (v := (4 : Int64)) hx hb hown (hts _ (List.mem_of_getElem? (i := 1) rfl)) dX6_draws_3 ?_
  refine x_calli hG hw (va_runS (As := [.long (x1).toInt64, .long (1 : Int64), .long (4 : Int64)]) (rest := []) ⟨hx, hb, hml, hown, hts⟩ (c_X6_in (l := l) (G := G) h) (va_cwS 3 hts gX6_draws_X6_in rfl rfl rfl (by decide +kernel) ⟨Nat.le_of_ble_eq_true rfl, Nat.le_of_ble_eq_true rfl⟩) (x_preS hG hw) rfl rfl hl.1 rfl (lv_room (Nat.le_of_ble_eq_true rfl)) dX6_draws_6 ⟨Nat.le_of_ble_eq_true rfl, Nat.le_of_ble_eq_true rfl⟩) (fun r_1 A9 L9 H locs hw h => ?_)
  rw [h.2.1, h.2.2] at hw
  have h := h.1
  refine lv_if_eq (tgt := 36) hx hb dX6_draws_9 (by decide) (fun c_2 => ?_) (fun c_2 => ?_)
  · have h := h.1 c_2
    refine lv_sipush (v := (-1002)) hx hb dX6_draws_36 (by decide) ?_
    exact x_iret hx hb hr hlocks hG hw h dX6_draws_39
  · have h := h.2 c_2
    refine lv_iload_n hx hb dX6_draws_12 rfl (lv_at hl 2 rfl) ?_
    refine lv_i2l hx hb dX6_draws_13 rfl ?_
    refine lv_lconst (v := 1) hx hb dX6_draws_14 (by decide) ?_
    refine lv_ldc2 (v := (3000 : Int64)) hx hb hown (hts _ (List.mem_of_getElem? (i := 2) rfl)) dX6_draws_15 ?_
    refine x_calli hG hw (va_runS (As := [.long (x2).toInt64, .long (1 : Int64), .long (3000 : Int64)]) (rest := []) ⟨hx, hb, hml, hown, hts⟩ (c_X6_in (l := l) (G := G) h) (va_cwS 3 hts gX6_draws_X6_in rfl rfl rfl (by decide +kernel) ⟨Nat.le_of_ble_eq_true rfl, Nat.le_of_ble_eq_true rfl⟩) (x_preS hG hw) rfl rfl hl.1 rfl (lv_room (Nat.le_of_ble_eq_true rfl)) dX6_draws_18 ⟨Nat.le_of_ble_eq_true rfl, Nat.le_of_ble_eq_true rfl⟩) (fun r_3 A9 L9 H locs hw h => ?_)
    rw [h.2.1, h.2.2] at hw
    have h := h.1
    refine lv_if_eq (tgt := 36) hx hb dX6_draws_21 (by decide) (fun c_4 => ?_) (fun c_4 => ?_)
    · have h := h.1 c_4
      refine lv_sipush (v := (-1002)) hx hb dX6_draws_36 (by decide) ?_
      exact x_iret hx hb hr hlocks hG hw h dX6_draws_39
    · have h := h.2 c_4
      refine lv_iload_n hx hb dX6_draws_24 rfl (lv_at hl 3 rfl) ?_
      refine lv_i2l hx hb dX6_draws_25 rfl ?_
      refine lv_lconst (v := 0) hx hb dX6_draws_26 (by decide) ?_
      refine lv_ldc2 (v := (3 : Int64)) hx hb hown (hts _ (List.mem_of_getElem? (i := 3) rfl)) dX6_draws_27 ?_
      refine x_calli hG hw (va_runS (As := [.long (x3).toInt64, .long (0 : Int64), .long (3 : Int64)]) (rest := []) ⟨hx, hb, hml, hown, hts⟩ (c_X6_in (l := l) (G := G) h) (va_cwS 3 hts gX6_draws_X6_in rfl rfl rfl (by decide +kernel) ⟨Nat.le_of_ble_eq_true rfl, Nat.le_of_ble_eq_true rfl⟩) (x_preS hG hw) rfl rfl hl.1 rfl (lv_room (Nat.le_of_ble_eq_true rfl)) dX6_draws_30 ⟨Nat.le_of_ble_eq_true rfl, Nat.le_of_ble_eq_true rfl⟩) (fun r_5 A9 L9 H locs hw h => ?_)
      rw [h.2.1, h.2.2] at hw
      have h := h.1
      refine lv_if_ne (tgt := 40) hx hb dX6_draws_33 (by decide) (fun c_6 => ?_) (fun c_6 => ?_)
      · have h := h.1 c_6
        refine lv_iconst (v := 0) hx hb dX6_draws_40 (by decide) ?_
        refine lv_istore (lv' := [(4, .int (0 : Int32)), (0, .ref (xad G 23)), (1, .int x1), (2, .int x2), (3, .int x3)]) hx hb dX6_draws_41 hl (by decide) rfl (fun ls hl => ?_)
        refine lv_iconst (v := 0) hx hb dX6_draws_43 (by decide) ?_
        refine lv_istore (lv' := [(5, .int (0 : Int32)), (4, .int (0 : Int32)), (0, .ref (xad G 23)), (1, .int x1), (2, .int x2), (3, .int x3)]) hx hb dX6_draws_44 hl (by decide) rfl (fun ls hl => ?_)
        refine lv_iconst (v := 0) hx hb dX6_draws_46 (by decide) ?_
        refine lv_istore (lv' := [(6, .int (0 : Int32)), (5, .int (0 : Int32)), (4, .int (0 : Int32)), (0, .ref (xad G 23)), (1, .int x1), (2, .int x2), (3, .int x3)]) hx hb dX6_draws_47 hl (by decide) rfl (fun ls hl => ?_)
        obtain ⟨n9, h⟩ := h
        exact t_X6_draws_49 C0 n9 (0 : Int32) (0 : Int32) (0 : Int32) A L _ _ _ hw (lv_sub hl [3, 4, 5, 6, 2, 1, 0] rfl) h
      · have h := h.2 c_6
        refine lv_sipush (v := (-1002)) hx hb dX6_draws_36 (by decide) ?_
        exact x_iret hx hb hr hlocks hG hw h dX6_draws_39
theorem c_X6_draws {l : Launch} {G : xGt} {x1 : Int32} {x2 : Int32} {x3 : Int32} {A : xM} {L : xL} {post : Int32 → xM → xL → Prop} (h : v_X6_draws x1 x2 x3 A L post) : Met l yX6_draws wsX6_draws rX6_draws (va_Pc [.ref (xad G 23), .int x1, .int x2, .int x3] (xPre G A L)) (xQi G post) 0 0 (xAf G) :=
  x_met RX6 rfl (by decide) rfl (Nat.le_of_ble_eq_true rfl) (fun p e s m below meth c ls C0 hw hl => t_X6_draws_0 C0 hw hl h)
end MECH
abbrev rX6_most : Room := { frames := 4, cells := 0, slots := 0, locals := 101 }
theorem inX6_most_X6 : ∀ w ∈ wsX60, w ∈ wsX6_most := fun w h => List.mem_cons_of_mem _ (List.mem_append_right _ h)
def v_X6_most_123 (x2 : Int32) (post : Int32 → xM → xL → Prop) : Nat → Int32 → Int32 → xM → xL → Prop
  | 0, _, _, _, _ => False
  | n + 1, x3, x4, A, L => ((101 : Int32) ≤ x4 → ((¬ x2 = 0 → (vp_in x3 101 ∧ (post (A 33 x3.toNatClampNeg) A L))) ∧ (x2 = 0 → (post x3 A L)))) ∧ (¬ (101 : Int32) ≤ x4 → (vp_in x4 101 ∧ (vp_in x3 101 ∧ (((A 33 x4.toNatClampNeg) ≤ (A 33 x3.toNatClampNeg) → (∀ x4_7 : Int32, x4_7 = x4 + (1 : Int32) → (v_X6_most_123 x2 post n x3 x4_7 A L))) ∧ (¬ (A 33 x4.toNatClampNeg) ≤ (A 33 x3.toNatClampNeg) → (∀ x4_8 : Int32, x4_8 = x4 + (1 : Int32) → (v_X6_most_123 x2 post n x4 x4_8 A L)))))))
def v_X6_most_75 (x1 : Int32) (x2 : Int32) (x3 : Int32) (R_49 : Int32 → xM → xL → Prop) (post : Int32 → xM → xL → Prop) : Nat → Int32 → xM → xL → Prop
  | 0, _, _, _ => False
  | n + 1, x4, A, L => ((101 : Int32) ≤ x4 → (∀ x3_2 : Int32, x3_2 = x3 + (1 : Int32) → (R_49 x3_2 A L))) ∧ (¬ (101 : Int32) ≤ x4 → (vp_in x4 101 ∧ (v_X6_isReached x4 A L (fun (r_4 : Int32) => ((r_4 = 0 → (∀ A_6 : xM, A_6 = xu A 33 x4.toNatClampNeg ((A 33 x4.toNatClampNeg) + (0 : Int32)) → (∀ x4_7 : Int32, x4_7 = x4 + (1 : Int32) → (v_X6_most_75 x1 x2 x3 R_49 post n x4_7 A_6 L)))) ∧ (¬ r_4 = 0 → (∀ A_8 : xM, A_8 = xu A 33 x4.toNatClampNeg ((A 33 x4.toNatClampNeg) + (1 : Int32)) → (∀ x4_9 : Int32, x4_9 = x4 + (1 : Int32) → (v_X6_most_75 x1 x2 x3 R_49 post n x4_9 A_8 L)))))))))
def v_X6_most_49 (x1 : Int32) (x2 : Int32) (post : Int32 → xM → xL → Prop) : Nat → Int32 → xM → xL → Prop
  | 0, _, _, _ => False
  | n + 1, x3, A, L => (((1 : Int32) <<< ((A 23 4) &&& 31)) ≤ x3 → (∃ k9 : Nat, v_X6_most_123 x2 post k9 (1 : Int32) (2 : Int32) A L)) ∧ (¬ ((1 : Int32) <<< ((A 23 4) &&& 31)) ≤ x3 → (v_X6_bits x3 (fun (r_2 : Int32) => ((¬ r_2 = x1 → (∀ x3_4 : Int32, x3_4 = x3 + (1 : Int32) → (v_X6_most_49 x1 x2 post n x3_4 A L))) ∧ (r_2 = x1 → (v_X6_drawn x3 A L (fun (A_5 : xM) (L_6 : xL) => (∃ k9 : Nat, v_X6_most_75 x1 x2 x3 (fun x3 A L => v_X6_most_49 x1 x2 post n x3 A L) post k9 (1 : Int32) A_5 L_6))))))))
def v_X6_most_28 (x1 : Int32) (x2 : Int32) (post : Int32 → xM → xL → Prop) : Nat → Int32 → xM → xL → Prop
  | 0, _, _, _ => False
  | n + 1, x3, A, L => ((101 : Int32) ≤ x3 → (∃ k9 : Nat, v_X6_most_49 x1 x2 post k9 (0 : Int32) A L)) ∧ (¬ (101 : Int32) ≤ x3 → (vp_in x3 101 ∧ (∀ A_3 : xM, A_3 = xu A 33 x3.toNatClampNeg (0 : Int32) → (∀ x3_4 : Int32, x3_4 = x3 + (1 : Int32) → (v_X6_most_28 x1 x2 post n x3_4 A_3 L)))))
def v_X6_most (x1 : Int32) (x2 : Int32) (A : xM) (L : xL) (post : Int32 → xM → xL → Prop) : Prop := v_X6_in (x1).toInt64 (1 : Int64) (4 : Int64) (fun (r_1 : Int32) => ((r_1 = 0 → (post (-1002 : Int32) A L)) ∧ (¬ r_1 = 0 → (v_X6_in (x2).toInt64 (0 : Int64) (1 : Int64) (fun (r_3 : Int32) => ((¬ r_3 = 0 → (∃ k9 : Nat, v_X6_most_28 x1 x2 post k9 (0 : Int32) A L)) ∧ (r_3 = 0 → (post (-1002 : Int32) A L))))))))
section MECH
variable {p : Program} {l : Launch} {e : Env} {s : State} {m : MethodId} {args : Array Value} {below : List Frame} {meth : Method} {c : Code} {G : xGt}
set_option maxHeartbeats 4000000 in
set_option maxRecDepth 100000 in
theorem t_X6_most_123 (C0 : xC p s m args meth c G cX6_most (some .int) wsX6_most RX6 5) {post : Int32 → xM → xL → Prop} {x2 : Int32} : ∀ (n : Nat) (x3 : Int32) (x4 : Int32) (A : xM) (L : xL) (H : Heap) (locs : List Loc) (ls : Array Slot), xW G s.heap A L H locs → lv_has ls 5 [(0, .ref (xad G 23)), (2, .int x2), (3, .int x3), (4, .int x4)] → v_X6_most_123 x2 post n x3 x4 A L → W p l e rX6_most s m args below meth c H locs 0 0 (MQ below (xQi G post) args s 0 0 (xAf G)) (F0 m 123 ls []) := by
  obtain ⟨hx, hb, hr, hts, hown, hml, hlocks, hG⟩ := id C0
  intro n
  induction n with
  | zero => intro x3 x4 A L H locs ls hw hl h; exact (show False from h).elim
  | succ n ih =>
    intro x3 x4 A L H locs ls hw hl h
    unfold v_X6_most_123 at h
    refine lv_iload hx hb dX6_most_123 (lv_at hl 3 rfl) ?_
    refine lv_bipush (v := 101) hx hb dX6_most_125 (by decide) ?_
    refine lv_icmp_ge (tgt := 159) hx hb dX6_most_127 (by decide) (fun c_1 => ?_) (fun c_1 => ?_)
    · have h := h.1 c_1
      refine lv_iload_n hx hb dX6_most_159 rfl (lv_at hl 1 rfl) ?_
      refine lv_if_ne (tgt := 167) hx hb dX6_most_160 (by decide) (fun c_2 => ?_) (fun c_2 => ?_)
      · have h := h.1 c_2
        refine lv_aload_n hx hb dX6_most_167 rfl (lv_at hl 0 rfl) ?_
        refine x_get (C := RX6) (T := TX6) (N := 20) hx hb hts inX6_most_X6 hown hG hw xO23 rfl 17 (by decide) (hts (.fieldLink RX6 46 "SixNumbersModel" "counts" "[I") (List.mem_of_getElem? (i := 2) rfl)) (fun _ h9 => h9) (v := .ref (xad G 33)) rfl dX6_most_168 ?_
        refine lv_iload_n hx hb dX6_most_171 rfl (lv_at hl 2 rfl) ?_
        have i_3 := h.1
        have h := h.2
        refine x_iald hx hb hG hw xb33 i_3 dX6_most_172 ?_
        exact x_iret hx hb hr hlocks hG hw h dX6_most_173
      · have h := h.2 c_2
        refine lv_iload_n hx hb dX6_most_163 rfl (lv_at hl 2 rfl) ?_
        refine lv_goto (tgt := 173) hx hb dX6_most_164 (by decide) ?_
        exact x_iret hx hb hr hlocks hG hw h dX6_most_173
    · have h := h.2 c_1
      refine lv_aload_n hx hb dX6_most_130 rfl (lv_at hl 0 rfl) ?_
      refine x_get (C := RX6) (T := TX6) (N := 20) hx hb hts inX6_most_X6 hown hG hw xO23 rfl 17 (by decide) (hts (.fieldLink RX6 46 "SixNumbersModel" "counts" "[I") (List.mem_of_getElem? (i := 2) rfl)) (fun _ h9 => h9) (v := .ref (xad G 33)) rfl dX6_most_131 ?_
      refine lv_iload hx hb dX6_most_134 (lv_at hl 3 rfl) ?_
      have i_4 := h.1
      have h := h.2
      refine x_iald hx hb hG hw xb33 i_4 dX6_most_136 ?_
      refine lv_aload_n hx hb dX6_most_137 rfl (lv_at hl 0 rfl) ?_
      refine x_get (C := RX6) (T := TX6) (N := 20) hx hb hts inX6_most_X6 hown hG hw xO23 rfl 17 (by decide) (hts (.fieldLink RX6 46 "SixNumbersModel" "counts" "[I") (List.mem_of_getElem? (i := 2) rfl)) (fun _ h9 => h9) (v := .ref (xad G 33)) rfl dX6_most_138 ?_
      refine lv_iload_n hx hb dX6_most_141 rfl (lv_at hl 2 rfl) ?_
      have i_5 := h.1
      have h := h.2
      refine x_iald hx hb hG hw xb33 i_5 dX6_most_142 ?_
      refine lv_icmp_le (tgt := 151) hx hb dX6_most_143 (by decide) (fun c_6 => ?_) (fun c_6 => ?_)
      · have h := h.1 c_6
        refine lv_iload_n hx hb dX6_most_151 rfl (lv_at hl 2 rfl) ?_
        refine lv_istore_n (lv' := [(3, .int x3), (0, .ref (xad G 23)), (2, .int x2), (4, .int x4)]) hx hb dX6_most_152 rfl hl (by decide) rfl (fun ls hl => ?_)
        obtain ⟨x4_7, ex4_7⟩ : ∃ y : Int32, y = x4 + (1 : Int32) := ⟨_, rfl⟩
        have h := h x4_7 ex4_7
        refine lv_iinc (v := x4_7) (lv' := [(4, .int x4_7), (3, .int x3), (0, .ref (xad G 23)), (2, .int x2)]) hx hb dX6_most_153 hl (k := 3) rfl (by rw [ex4_7]; rfl) (by decide) rfl (fun ls hl => ?_)
        refine lv_goto (tgt := 123) hx hb dX6_most_156 (by decide) ?_
        exact ih x3 x4_7 A L _ _ _ hw (lv_sub hl [2, 3, 1, 0] rfl) h
      · have h := h.2 c_6
        refine lv_iload hx hb dX6_most_146 (lv_at hl 3 rfl) ?_
        refine lv_goto (tgt := 152) hx hb dX6_most_148 (by decide) ?_
        refine lv_istore_n (lv' := [(3, .int x4), (0, .ref (xad G 23)), (2, .int x2), (4, .int x4)]) hx hb dX6_most_152 rfl hl (by decide) rfl (fun ls hl => ?_)
        obtain ⟨x4_8, ex4_8⟩ : ∃ y : Int32, y = x4 + (1 : Int32) := ⟨_, rfl⟩
        have h := h x4_8 ex4_8
        refine lv_iinc (v := x4_8) (lv' := [(4, .int x4_8), (3, .int x4), (0, .ref (xad G 23)), (2, .int x2)]) hx hb dX6_most_153 hl (k := 3) rfl (by rw [ex4_8]; rfl) (by decide) rfl (fun ls hl => ?_)
        refine lv_goto (tgt := 123) hx hb dX6_most_156 (by decide) ?_
        exact ih x4 x4_8 A L _ _ _ hw (lv_sub hl [2, 3, 1, 0] rfl) h
set_option maxHeartbeats 4000000 in
set_option maxRecDepth 100000 in
theorem t_X6_most_75 (C0 : xC p s m args meth c G cX6_most (some .int) wsX6_most RX6 5) {post : Int32 → xM → xL → Prop} {x1 : Int32} {x2 : Int32} {x3 : Int32} {R_49 : Int32 → xM → xL → Prop} (hR_49 : ∀ (x3 : Int32) (A : xM) (L : xL) (H : Heap) (locs : List Loc) (ls : Array Slot), xW G s.heap A L H locs → lv_has ls 5 [(0, .ref (xad G 23)), (1, .int x1), (2, .int x2), (3, .int x3)] → R_49 x3 A L → W p l e rX6_most s m args below meth c H locs 0 0 (MQ below (xQi G post) args s 0 0 (xAf G)) (F0 m 49 ls [])) : ∀ (n : Nat) (x4 : Int32) (A : xM) (L : xL) (H : Heap) (locs : List Loc) (ls : Array Slot), xW G s.heap A L H locs → lv_has ls 5 [(0, .ref (xad G 23)), (1, .int x1), (2, .int x2), (3, .int x3), (4, .int x4)] → v_X6_most_75 x1 x2 x3 R_49 post n x4 A L → W p l e rX6_most s m args below meth c H locs 0 0 (MQ below (xQi G post) args s 0 0 (xAf G)) (F0 m 75 ls []) := by
  obtain ⟨hx, hb, hr, hts, hown, hml, hlocks, hG⟩ := id C0
  intro n
  induction n with
  | zero => intro x4 A L H locs ls hw hl h; exact (show False from h).elim
  | succ n ih =>
    intro x4 A L H locs ls hw hl h
    unfold v_X6_most_75 at h
    refine lv_iload hx hb dX6_most_75 (lv_at hl 4 rfl) ?_
    refine lv_bipush (v := 101) hx hb dX6_most_77 (by decide) ?_
    refine lv_icmp_ge (tgt := 112) hx hb dX6_most_79 (by decide) (fun c_1 => ?_) (fun c_1 => ?_)
    · have h := h.1 c_1
      obtain ⟨x3_2, ex3_2⟩ : ∃ y : Int32, y = x3 + (1 : Int32) := ⟨_, rfl⟩
      have h := h x3_2 ex3_2
      refine lv_iinc (v := x3_2) (lv' := [(3, .int x3_2), (0, .ref (xad G 23)), (1, .int x1), (2, .int x2), (4, .int x4)]) hx hb dX6_most_112 hl (k := 3) rfl (by rw [ex3_2]; rfl) (by decide) rfl (fun ls hl => ?_)
      refine lv_goto (tgt := 49) hx hb dX6_most_115 (by decide) ?_
      exact hR_49 x3_2 A L _ _ _ hw (lv_sub hl [1, 2, 3, 0] rfl) h
    · have h := h.2 c_1
      refine lv_aload_n hx hb dX6_most_82 rfl (lv_at hl 0 rfl) ?_
      refine x_get (C := RX6) (T := TX6) (N := 20) hx hb hts inX6_most_X6 hown hG hw xO23 rfl 17 (by decide) (hts (.fieldLink RX6 46 "SixNumbersModel" "counts" "[I") (List.mem_of_getElem? (i := 2) rfl)) (fun _ h9 => h9) (v := .ref (xad G 33)) rfl dX6_most_83 ?_
      refine lv_iload hx hb dX6_most_86 (lv_at hl 4 rfl) ?_
      refine lv_dup2_11 hx hb dX6_most_88 rfl rfl ?_
      have i_3 := h.1
      have h := h.2
      refine x_iald hx hb hG hw xb33 i_3 dX6_most_89 ?_
      refine lv_aload_n hx hb dX6_most_90 rfl (lv_at hl 0 rfl) ?_
      refine lv_iload hx hb dX6_most_91 (lv_at hl 4 rfl) ?_
      refine x_calli hG hw (va_runV (As := [.int x4]) (rest := [.int (A 33 x4.toNatClampNeg), .int x4, .ref (xad G 33)]) ⟨hx, hb, hml, hown, hts⟩ (c_X6_isReached (l := l) (G := G) h) (cwV 1 hts gX6_most_X6_isReached rfl rfl rfl (by decide +kernel) ⟨Nat.le_of_ble_eq_true rfl, Nat.le_of_ble_eq_true rfl⟩) (x_preV hG hw xO23 rfl) rfl rfl hl.1 rfl (lv_room (Nat.le_of_ble_eq_true rfl)) dX6_most_93 ⟨Nat.le_of_ble_eq_true rfl, Nat.le_of_ble_eq_true rfl⟩) (fun r_4 A9 L9 H locs hw h => ?_)
      rw [h.2.1, h.2.2] at hw
      have h := h.1
      refine lv_if_eq (tgt := 103) hx hb dX6_most_96 (by decide) (fun c_5 => ?_) (fun c_5 => ?_)
      · have h := h.1 c_5
        refine lv_iconst (v := 0) hx hb dX6_most_103 (by decide) ?_
        refine lv_iadd hx hb dX6_most_104 ?_
        refine x_iast hx hb hG hw xb33 i_3 dX6_most_105 (fun A_6 H locs eA_6 hw => ?_)
        have h := h A_6 eA_6
        obtain ⟨x4_7, ex4_7⟩ : ∃ y : Int32, y = x4 + (1 : Int32) := ⟨_, rfl⟩
        have h := h x4_7 ex4_7
        refine lv_iinc (v := x4_7) (lv' := [(4, .int x4_7), (0, .ref (xad G 23)), (1, .int x1), (2, .int x2), (3, .int x3)]) hx hb dX6_most_106 hl (k := 4) rfl (by rw [ex4_7]; rfl) (by decide) rfl (fun ls hl => ?_)
        refine lv_goto (tgt := 75) hx hb dX6_most_109 (by decide) ?_
        exact ih x4_7 A_6 L _ _ _ hw (lv_sub hl [1, 2, 3, 4, 0] rfl) h
      · have h := h.2 c_5
        refine lv_iconst (v := 1) hx hb dX6_most_99 (by decide) ?_
        refine lv_goto (tgt := 104) hx hb dX6_most_100 (by decide) ?_
        refine lv_iadd hx hb dX6_most_104 ?_
        refine x_iast hx hb hG hw xb33 i_3 dX6_most_105 (fun A_8 H locs eA_8 hw => ?_)
        have h := h A_8 eA_8
        obtain ⟨x4_9, ex4_9⟩ : ∃ y : Int32, y = x4 + (1 : Int32) := ⟨_, rfl⟩
        have h := h x4_9 ex4_9
        refine lv_iinc (v := x4_9) (lv' := [(4, .int x4_9), (0, .ref (xad G 23)), (1, .int x1), (2, .int x2), (3, .int x3)]) hx hb dX6_most_106 hl (k := 4) rfl (by rw [ex4_9]; rfl) (by decide) rfl (fun ls hl => ?_)
        refine lv_goto (tgt := 75) hx hb dX6_most_109 (by decide) ?_
        exact ih x4_9 A_8 L _ _ _ hw (lv_sub hl [1, 2, 3, 4, 0] rfl) h
set_option maxHeartbeats 4000000 in
set_option maxRecDepth 100000 in
theorem t_X6_most_49 (C0 : xC p s m args meth c G cX6_most (some .int) wsX6_most RX6 5) {post : Int32 → xM → xL → Prop} {x1 : Int32} {x2 : Int32} : ∀ (n : Nat) (x3 : Int32) (A : xM) (L : xL) (H : Heap) (locs : List Loc) (ls : Array Slot), xW G s.heap A L H locs → lv_has ls 5 [(0, .ref (xad G 23)), (1, .int x1), (2, .int x2), (3, .int x3)] → v_X6_most_49 x1 x2 post n x3 A L → W p l e rX6_most s m args below meth c H locs 0 0 (MQ below (xQi G post) args s 0 0 (xAf G)) (F0 m 49 ls []) := by
  obtain ⟨hx, hb, hr, hts, hown, hml, hlocks, hG⟩ := id C0
  intro n
  induction n with
  | zero => intro x3 A L H locs ls hw hl h; exact (show False from h).elim
  | succ n ih =>
    intro x3 A L H locs ls hw hl h
    unfold v_X6_most_49 at h
    refine lv_iload_n hx hb dX6_most_49 rfl (lv_at hl 3 rfl) ?_
    refine lv_iconst (v := 1) hx hb dX6_most_50 (by decide) ?_
    refine lv_aload_n hx hb dX6_most_51 rfl (lv_at hl 0 rfl) ?_
    refine x_get (C := RX6) (T := TX6) (N := 20) hx hb hts inX6_most_X6 hown hG hw xO23 rfl 4 (by decide) (hts (.fieldLink RX6 78 "SixNumbersModel" "cards" "I") (List.mem_of_getElem? (i := 3) rfl)) (fun _ h9 => h9) (v := .int (A 23 4)) rfl dX6_most_52 ?_
    refine lv_ishl hx hb dX6_most_55 ?_
    refine lv_icmp_ge (tgt := 118) hx hb dX6_most_56 (by decide) (fun c_1 => ?_) (fun c_1 => ?_)
    · have h := h.1 c_1
      refine lv_iconst (v := 1) hx hb dX6_most_118 (by decide) ?_
      refine lv_istore_n (lv' := [(3, .int (1 : Int32)), (0, .ref (xad G 23)), (1, .int x1), (2, .int x2)]) hx hb dX6_most_119 rfl hl (by decide) rfl (fun ls hl => ?_)
      refine lv_iconst (v := 2) hx hb dX6_most_120 (by decide) ?_
      refine lv_istore (lv' := [(4, .int (2 : Int32)), (3, .int (1 : Int32)), (0, .ref (xad G 23)), (1, .int x1), (2, .int x2)]) hx hb dX6_most_121 hl (by decide) rfl (fun ls hl => ?_)
      obtain ⟨n9, h⟩ := h
      exact t_X6_most_123 C0 n9 (1 : Int32) (2 : Int32) A L _ _ _ hw (lv_sub hl [2, 4, 1, 0] rfl) h
    · have h := h.2 c_1
      refine lv_iload_n hx hb dX6_most_59 rfl (lv_at hl 3 rfl) ?_
      refine x_calli hG hw (va_runS (As := [.int x3]) (rest := []) ⟨hx, hb, hml, hown, hts⟩ (c_X6_bits (l := l) (G := G) h) (va_cwS 1 hts gX6_most_X6_bits rfl rfl rfl (by decide +kernel) ⟨Nat.le_of_ble_eq_true rfl, Nat.le_of_ble_eq_true rfl⟩) (x_preS hG hw) rfl rfl hl.1 rfl (lv_room (Nat.le_of_ble_eq_true rfl)) dX6_most_60 ⟨Nat.le_of_ble_eq_true rfl, Nat.le_of_ble_eq_true rfl⟩) (fun r_2 A9 L9 H locs hw h => ?_)
      rw [h.2.1, h.2.2] at hw
      have h := h.1
      refine lv_iload_n hx hb dX6_most_63 rfl (lv_at hl 1 rfl) ?_
      refine lv_icmp_ne (tgt := 112) hx hb dX6_most_64 (by decide) (fun c_3 => ?_) (fun c_3 => ?_)
      · have h := h.1 c_3
        obtain ⟨x3_4, ex3_4⟩ : ∃ y : Int32, y = x3 + (1 : Int32) := ⟨_, rfl⟩
        have h := h x3_4 ex3_4
        refine lv_iinc (v := x3_4) (lv' := [(3, .int x3_4), (0, .ref (xad G 23)), (1, .int x1), (2, .int x2)]) hx hb dX6_most_112 hl (k := 3) rfl (by rw [ex3_4]; rfl) (by decide) rfl (fun ls hl => ?_)
        refine lv_goto (tgt := 49) hx hb dX6_most_115 (by decide) ?_
        exact ih x3_4 A L _ _ _ hw (lv_sub hl [1, 2, 3, 0] rfl) h
      · have h := h.2 c_3
        refine lv_aload_n hx hb dX6_most_67 rfl (lv_at hl 0 rfl) ?_
        refine lv_iload_n hx hb dX6_most_68 rfl (lv_at hl 3 rfl) ?_
        refine x_callv hG hw (va_runV (As := [.int x3]) (rest := []) ⟨hx, hb, hml, hown, hts⟩ (c_X6_drawn (l := l) (G := G) h) (cwV 1 hts gX6_most_X6_drawn rfl rfl rfl (by decide +kernel) ⟨Nat.le_of_ble_eq_true rfl, Nat.le_of_ble_eq_true rfl⟩) (x_preV hG hw xO23 rfl) rfl rfl hl.1 rfl (lv_room (Nat.le_of_ble_eq_true rfl)) dX6_most_69 ⟨Nat.le_of_ble_eq_true rfl, Nat.le_of_ble_eq_true rfl⟩) (fun A_5 L_6 H locs hw h => ?_)
        refine lv_iconst (v := 1) hx hb dX6_most_72 (by decide) ?_
        refine lv_istore (lv' := [(4, .int (1 : Int32)), (0, .ref (xad G 23)), (1, .int x1), (2, .int x2), (3, .int x3)]) hx hb dX6_most_73 hl (by decide) rfl (fun ls hl => ?_)
        obtain ⟨n9, h⟩ := h
        exact t_X6_most_75 C0 ih n9 (1 : Int32) A_5 L_6 _ _ _ hw (lv_sub hl [1, 2, 3, 4, 0] rfl) h
set_option maxHeartbeats 4000000 in
set_option maxRecDepth 100000 in
theorem t_X6_most_28 (C0 : xC p s m args meth c G cX6_most (some .int) wsX6_most RX6 5) {post : Int32 → xM → xL → Prop} {x1 : Int32} {x2 : Int32} : ∀ (n : Nat) (x3 : Int32) (A : xM) (L : xL) (H : Heap) (locs : List Loc) (ls : Array Slot), xW G s.heap A L H locs → lv_has ls 5 [(0, .ref (xad G 23)), (1, .int x1), (2, .int x2), (3, .int x3)] → v_X6_most_28 x1 x2 post n x3 A L → W p l e rX6_most s m args below meth c H locs 0 0 (MQ below (xQi G post) args s 0 0 (xAf G)) (F0 m 28 ls []) := by
  obtain ⟨hx, hb, hr, hts, hown, hml, hlocks, hG⟩ := id C0
  intro n
  induction n with
  | zero => intro x3 A L H locs ls hw hl h; exact (show False from h).elim
  | succ n ih =>
    intro x3 A L H locs ls hw hl h
    unfold v_X6_most_28 at h
    refine lv_iload_n hx hb dX6_most_28 rfl (lv_at hl 3 rfl) ?_
    refine lv_bipush (v := 101) hx hb dX6_most_29 (by decide) ?_
    refine lv_icmp_ge (tgt := 47) hx hb dX6_most_31 (by decide) (fun c_1 => ?_) (fun c_1 => ?_)
    · have h := h.1 c_1
      refine lv_iconst (v := 0) hx hb dX6_most_47 (by decide) ?_
      refine lv_istore_n (lv' := [(3, .int (0 : Int32)), (0, .ref (xad G 23)), (1, .int x1), (2, .int x2)]) hx hb dX6_most_48 rfl hl (by decide) rfl (fun ls hl => ?_)
      obtain ⟨n9, h⟩ := h
      exact t_X6_most_49 C0 n9 (0 : Int32) A L _ _ _ hw (lv_sub hl [1, 2, 3, 0] rfl) h
    · have h := h.2 c_1
      refine lv_aload_n hx hb dX6_most_34 rfl (lv_at hl 0 rfl) ?_
      refine x_get (C := RX6) (T := TX6) (N := 20) hx hb hts inX6_most_X6 hown hG hw xO23 rfl 17 (by decide) (hts (.fieldLink RX6 46 "SixNumbersModel" "counts" "[I") (List.mem_of_getElem? (i := 2) rfl)) (fun _ h9 => h9) (v := .ref (xad G 33)) rfl dX6_most_35 ?_
      refine lv_iload_n hx hb dX6_most_38 rfl (lv_at hl 3 rfl) ?_
      refine lv_iconst (v := 0) hx hb dX6_most_39 (by decide) ?_
      have i_2 := h.1
      have h := h.2
      refine x_iast hx hb hG hw xb33 i_2 dX6_most_40 (fun A_3 H locs eA_3 hw => ?_)
      have h := h A_3 eA_3
      obtain ⟨x3_4, ex3_4⟩ : ∃ y : Int32, y = x3 + (1 : Int32) := ⟨_, rfl⟩
      have h := h x3_4 ex3_4
      refine lv_iinc (v := x3_4) (lv' := [(3, .int x3_4), (0, .ref (xad G 23)), (1, .int x1), (2, .int x2)]) hx hb dX6_most_41 hl (k := 3) rfl (by rw [ex3_4]; rfl) (by decide) rfl (fun ls hl => ?_)
      refine lv_goto (tgt := 28) hx hb dX6_most_44 (by decide) ?_
      exact ih x3_4 A_3 L _ _ _ hw (lv_sub hl [1, 2, 3, 0] rfl) h
set_option maxHeartbeats 4000000 in
set_option maxRecDepth 100000 in
theorem t_X6_most_0 (C0 : xC p s m args meth c G cX6_most (some .int) wsX6_most RX6 5) {post : Int32 → xM → xL → Prop} {x1 : Int32} {x2 : Int32} {A : xM} {L : xL} {H : Heap} {locs : List Loc} {ls : Array Slot} (hw : xW G s.heap A L H locs) (hl : lv_has ls 5 [(0, .ref (xad G 23)), (1, .int x1), (2, .int x2)]) (h : v_X6_most x1 x2 A L post) : W p l e rX6_most s m args below meth c H locs 0 0 (MQ below (xQi G post) args s 0 0 (xAf G)) (F0 m 0 ls []) := by
  obtain ⟨hx, hb, hr, hts, hown, hml, hlocks, hG⟩ := id C0
  unfold v_X6_most at h
  refine lv_iload_n hx hb dX6_most_0 rfl (lv_at hl 1 rfl) ?_
  refine lv_i2l hx hb dX6_most_1 rfl ?_
  refine lv_lconst (v := 1) hx hb dX6_most_2 (by decide) ?_
  refine lv_ldc2 (v := (4 : Int64)) hx hb hown (hts _ (List.mem_of_getElem? (i := 1) rfl)) dX6_most_3 ?_
  refine x_calli hG hw (va_runS (As := [.long (x1).toInt64, .long (1 : Int64), .long (4 : Int64)]) (rest := []) ⟨hx, hb, hml, hown, hts⟩ (c_X6_in (l := l) (G := G) h) (va_cwS 3 hts gX6_most_X6_in rfl rfl rfl (by decide +kernel) ⟨Nat.le_of_ble_eq_true rfl, Nat.le_of_ble_eq_true rfl⟩) (x_preS hG hw) rfl rfl hl.1 rfl (lv_room (Nat.le_of_ble_eq_true rfl)) dX6_most_6 ⟨Nat.le_of_ble_eq_true rfl, Nat.le_of_ble_eq_true rfl⟩) (fun r_1 A9 L9 H locs hw h => ?_)
  rw [h.2.1, h.2.2] at hw
  have h := h.1
  refine lv_if_eq (tgt := 22) hx hb dX6_most_9 (by decide) (fun c_2 => ?_) (fun c_2 => ?_)
  · have h := h.1 c_2
    refine lv_sipush (v := (-1002)) hx hb dX6_most_22 (by decide) ?_
    exact x_iret hx hb hr hlocks hG hw h dX6_most_25
  · have h := h.2 c_2
    refine lv_iload_n hx hb dX6_most_12 rfl (lv_at hl 2 rfl) ?_
    refine lv_i2l hx hb dX6_most_13 rfl ?_
    refine lv_lconst (v := 0) hx hb dX6_most_14 (by decide) ?_
    refine lv_lconst (v := 1) hx hb dX6_most_15 (by decide) ?_
    refine x_calli hG hw (va_runS (As := [.long (x2).toInt64, .long (0 : Int64), .long (1 : Int64)]) (rest := []) ⟨hx, hb, hml, hown, hts⟩ (c_X6_in (l := l) (G := G) h) (va_cwS 3 hts gX6_most_X6_in rfl rfl rfl (by decide +kernel) ⟨Nat.le_of_ble_eq_true rfl, Nat.le_of_ble_eq_true rfl⟩) (x_preS hG hw) rfl rfl hl.1 rfl (lv_room (Nat.le_of_ble_eq_true rfl)) dX6_most_16 ⟨Nat.le_of_ble_eq_true rfl, Nat.le_of_ble_eq_true rfl⟩) (fun r_3 A9 L9 H locs hw h => ?_)
    rw [h.2.1, h.2.2] at hw
    have h := h.1
    refine lv_if_ne (tgt := 26) hx hb dX6_most_19 (by decide) (fun c_4 => ?_) (fun c_4 => ?_)
    · have h := h.1 c_4
      refine lv_iconst (v := 0) hx hb dX6_most_26 (by decide) ?_
      refine lv_istore_n (lv' := [(3, .int (0 : Int32)), (0, .ref (xad G 23)), (1, .int x1), (2, .int x2)]) hx hb dX6_most_27 rfl hl (by decide) rfl (fun ls hl => ?_)
      obtain ⟨n9, h⟩ := h
      exact t_X6_most_28 C0 n9 (0 : Int32) A L _ _ _ hw (lv_sub hl [1, 2, 3, 0] rfl) h
    · have h := h.2 c_4
      refine lv_sipush (v := (-1002)) hx hb dX6_most_22 (by decide) ?_
      exact x_iret hx hb hr hlocks hG hw h dX6_most_25
theorem c_X6_most {l : Launch} {G : xGt} {x1 : Int32} {x2 : Int32} {A : xM} {L : xL} {post : Int32 → xM → xL → Prop} (h : v_X6_most x1 x2 A L post) : Met l yX6_most wsX6_most rX6_most (va_Pc [.ref (xad G 23), .int x1, .int x2] (xPre G A L)) (xQi G post) 0 0 (xAf G) :=
  x_met RX6 rfl (by decide) rfl (Nat.le_of_ble_eq_true rfl) (fun p e s m below meth c ls C0 hw hl => t_X6_most_0 C0 hw hl h)
end MECH
abbrev rX6_spans : Room := { frames := 3, cells := 0, slots := 0, locals := 79 }
def v_X6_spans_8 (x1 : Int32) (post : Int32 → xM → xL → Prop) : Nat → Int32 → Int32 → xM → xL → Prop
  | 0, _, _, _, _ => False
  | n + 1, x2, x3, A, L => (x1 < x3 → ((x2 = 0 ∨ x2 = 1) ∧ post x2 A L)) ∧ (¬ x1 < x3 → ((x2 = 0 → ((x2 = 0 ∨ x2 = 1) ∧ post x2 A L)) ∧ (¬ x2 = 0 → (v_X6_isReached x3 A L (fun (r_3 : Int32) => (∀ x3_4 : Int32, x3_4 = x3 + (1 : Int32) → (v_X6_spans_8 x1 post n r_3 x3_4 A L)))))))
def v_X6_spans (x1 : Int32) (A : xM) (L : xL) (post : Int32 → xM → xL → Prop) : Prop := v_X6_fill A L (fun (A_1 : xM) (L_2 : xL) => (∃ k9 : Nat, v_X6_spans_8 x1 post k9 (1 : Int32) (1 : Int32) A_1 L_2))
section MECH
variable {p : Program} {l : Launch} {e : Env} {s : State} {m : MethodId} {args : Array Value} {below : List Frame} {meth : Method} {c : Code} {G : xGt}
set_option maxHeartbeats 4000000 in
set_option maxRecDepth 100000 in
theorem t_X6_spans_8 (C0 : xC p s m args meth c G cX6_spans (some .boolean) wsX6_spans RX6 4) {post : Int32 → xM → xL → Prop} {x1 : Int32} : ∀ (n : Nat) (x2 : Int32) (x3 : Int32) (A : xM) (L : xL) (H : Heap) (locs : List Loc) (ls : Array Slot), xW G s.heap A L H locs → lv_has ls 4 [(0, .ref (xad G 23)), (1, .int x1), (2, .int x2), (3, .int x3)] → v_X6_spans_8 x1 post n x2 x3 A L → W p l e rX6_spans s m args below meth c H locs 0 0 (MQ below (xQi G post) args s 0 0 (xAf G)) (F0 m 8 ls []) := by
  obtain ⟨hx, hb, hr, hts, hown, hml, hlocks, hG⟩ := id C0
  intro n
  induction n with
  | zero => intro x2 x3 A L H locs ls hw hl h; exact (show False from h).elim
  | succ n ih =>
    intro x2 x3 A L H locs ls hw hl h
    unfold v_X6_spans_8 at h
    refine lv_iload_n hx hb dX6_spans_8 rfl (lv_at hl 3 rfl) ?_
    refine lv_iload_n hx hb dX6_spans_9 rfl (lv_at hl 1 rfl) ?_
    refine lv_icmp_gt (tgt := 29) hx hb dX6_spans_10 (by decide) (fun c_1 => ?_) (fun c_1 => ?_)
    · have h := h.1 c_1
      refine lv_iload_n hx hb dX6_spans_29 rfl (lv_at hl 2 rfl) ?_
      exact x_zret hx hb hr hlocks hG hw h.1 h.2 dX6_spans_30
    · have h := h.2 c_1
      refine lv_iload_n hx hb dX6_spans_13 rfl (lv_at hl 2 rfl) ?_
      refine lv_if_eq (tgt := 29) hx hb dX6_spans_14 (by decide) (fun c_2 => ?_) (fun c_2 => ?_)
      · have h := h.1 c_2
        refine lv_iload_n hx hb dX6_spans_29 rfl (lv_at hl 2 rfl) ?_
        exact x_zret hx hb hr hlocks hG hw h.1 h.2 dX6_spans_30
      · have h := h.2 c_2
        refine lv_aload_n hx hb dX6_spans_17 rfl (lv_at hl 0 rfl) ?_
        refine lv_iload_n hx hb dX6_spans_18 rfl (lv_at hl 3 rfl) ?_
        refine x_calli hG hw (va_runV (As := [.int x3]) (rest := []) ⟨hx, hb, hml, hown, hts⟩ (c_X6_isReached (l := l) (G := G) h) (cwV 1 hts gX6_spans_X6_isReached rfl rfl rfl (by decide +kernel) ⟨Nat.le_of_ble_eq_true rfl, Nat.le_of_ble_eq_true rfl⟩) (x_preV hG hw xO23 rfl) rfl rfl hl.1 rfl (lv_room (Nat.le_of_ble_eq_true rfl)) dX6_spans_19 ⟨Nat.le_of_ble_eq_true rfl, Nat.le_of_ble_eq_true rfl⟩) (fun r_3 A9 L9 H locs hw h => ?_)
        rw [h.2.1, h.2.2] at hw
        have h := h.1
        refine lv_istore_n (lv' := [(2, .int r_3), (0, .ref (xad G 23)), (1, .int x1), (3, .int x3)]) hx hb dX6_spans_22 rfl hl (by decide) rfl (fun ls hl => ?_)
        obtain ⟨x3_4, ex3_4⟩ : ∃ y : Int32, y = x3 + (1 : Int32) := ⟨_, rfl⟩
        have h := h x3_4 ex3_4
        refine lv_iinc (v := x3_4) (lv' := [(3, .int x3_4), (2, .int r_3), (0, .ref (xad G 23)), (1, .int x1)]) hx hb dX6_spans_23 hl (k := 3) rfl (by rw [ex3_4]; rfl) (by decide) rfl (fun ls hl => ?_)
        refine lv_goto (tgt := 8) hx hb dX6_spans_26 (by decide) ?_
        exact ih r_3 x3_4 A L _ _ _ hw (lv_sub hl [2, 3, 1, 0] rfl) h
set_option maxHeartbeats 4000000 in
set_option maxRecDepth 100000 in
theorem t_X6_spans_0 (C0 : xC p s m args meth c G cX6_spans (some .boolean) wsX6_spans RX6 4) {post : Int32 → xM → xL → Prop} {x1 : Int32} {A : xM} {L : xL} {H : Heap} {locs : List Loc} {ls : Array Slot} (hw : xW G s.heap A L H locs) (hl : lv_has ls 4 [(0, .ref (xad G 23)), (1, .int x1)]) (h : v_X6_spans x1 A L post) : W p l e rX6_spans s m args below meth c H locs 0 0 (MQ below (xQi G post) args s 0 0 (xAf G)) (F0 m 0 ls []) := by
  obtain ⟨hx, hb, hr, hts, hown, hml, hlocks, hG⟩ := id C0
  unfold v_X6_spans at h
  refine lv_aload_n hx hb dX6_spans_0 rfl (lv_at hl 0 rfl) ?_
  refine x_callv hG hw (va_runV (As := []) (rest := []) ⟨hx, hb, hml, hown, hts⟩ (c_X6_fill (l := l) (G := G) h) (cwV 0 hts gX6_spans_X6_fill rfl rfl rfl (by decide +kernel) ⟨Nat.le_of_ble_eq_true rfl, Nat.le_of_ble_eq_true rfl⟩) (x_preV hG hw xO23 rfl) rfl rfl hl.1 rfl (lv_room (Nat.le_of_ble_eq_true rfl)) dX6_spans_1 ⟨Nat.le_of_ble_eq_true rfl, Nat.le_of_ble_eq_true rfl⟩) (fun A_1 L_2 H locs hw h => ?_)
  refine lv_iconst (v := 1) hx hb dX6_spans_4 (by decide) ?_
  refine lv_istore_n (lv' := [(2, .int (1 : Int32)), (0, .ref (xad G 23)), (1, .int x1)]) hx hb dX6_spans_5 rfl hl (by decide) rfl (fun ls hl => ?_)
  refine lv_iconst (v := 1) hx hb dX6_spans_6 (by decide) ?_
  refine lv_istore_n (lv' := [(3, .int (1 : Int32)), (2, .int (1 : Int32)), (0, .ref (xad G 23)), (1, .int x1)]) hx hb dX6_spans_7 rfl hl (by decide) rfl (fun ls hl => ?_)
  obtain ⟨n9, h⟩ := h
  exact t_X6_spans_8 C0 n9 (1 : Int32) (1 : Int32) A_1 L_2 _ _ _ hw (lv_sub hl [2, 3, 1, 0] rfl) h
theorem c_X6_spans {l : Launch} {G : xGt} {x1 : Int32} {A : xM} {L : xL} {post : Int32 → xM → xL → Prop} (h : v_X6_spans x1 A L post) : Met l yX6_spans wsX6_spans rX6_spans (va_Pc [.ref (xad G 23), .int x1] (xPre G A L)) (xQi G post) 0 0 (xAf G) :=
  x_met RX6 rfl (by decide) rfl (Nat.le_of_ble_eq_true rfl) (fun p e s m below meth c ls C0 hw hl => t_X6_spans_0 C0 hw hl h)
end MECH
abbrev rX6_span : Room := { frames := 4, cells := 0, slots := 0, locals := 102 }
theorem inX6_span_X6 : ∀ w ∈ wsX60, w ∈ wsX6_span := fun w h => List.mem_cons_of_mem _ (List.mem_append_right _ h)
def v_X6_span_95 (x1 : Int32) (x2 : Int32) (x3 : Int32) (x4 : Int32) (x5 : Int32) (R_49 : Int32 → xM → xL → Prop) (R_72 : Int32 → xM → xL → Prop) (post : Int32 → xM → xL → Prop) : Nat → Int32 → xM → xL → Prop
  | 0, _, _, _ => False
  | n + 1, x6, A, L => ((12 : Int32) < x6 → (∀ x5_2 : Int32, x5_2 = x5 + (1 : Int32) → (R_72 x5_2 A L))) ∧ (¬ (12 : Int32) < x6 → (vp_in (0 : Int32) 6 ∧ (∀ A_4 : xM, A_4 = xu A 27 (0 : Int32).toNatClampNeg x4 → (vp_in (1 : Int32) 6 ∧ (∀ A_6 : xM, A_6 = xu A_4 27 (1 : Int32).toNatClampNeg x5 → (vp_in (2 : Int32) 6 ∧ (∀ A_8 : xM, A_8 = xu A_6 27 (2 : Int32).toNatClampNeg x6 → (v_X6_spans x2 A_8 L (fun (r_9 : Int32) (A_10 : xM) (L_11 : xL) => ((r_9 = 0 → (∀ x6_13 : Int32, x6_13 = x6 + (1 : Int32) → (v_X6_span_95 x1 x2 x3 x4 x5 R_49 R_72 post n x6_13 A_10 L_11))) ∧ (¬ r_9 = 0 → (vp_in x3 6 ∧ (post (A_10 27 x3.toNatClampNeg) A_10 L_11)))))))))))))
def v_X6_span_93 (x1 : Int32) (x2 : Int32) (x3 : Int32) (x4 : Int32) (x5 : Int32) (s0 : Int32) (A : xM) (L : xL) (R_49 : Int32 → xM → xL → Prop) (R_72 : Int32 → xM → xL → Prop) (post : Int32 → xM → xL → Prop) : Prop := ∃ k9 : Nat, v_X6_span_95 x1 x2 x3 x4 x5 R_49 R_72 post k9 s0 A L
def v_X6_span_72 (x1 : Int32) (x2 : Int32) (x3 : Int32) (x4 : Int32) (R_49 : Int32 → xM → xL → Prop) (post : Int32 → xM → xL → Prop) : Nat → Int32 → xM → xL → Prop
  | 0, _, _, _ => False
  | n + 1, x5, A, L => ((12 : Int32) < x5 → (∀ x4_2 : Int32, x4_2 = x4 + (1 : Int32) → (R_49 x4_2 A L))) ∧ (¬ (12 : Int32) < x5 → ((x1 ≤ (2 : Int32) → (v_X6_span_93 x1 x2 x3 x4 x5 (12 : Int32) A L R_49 (fun x5 A L => v_X6_span_72 x1 x2 x3 x4 R_49 post n x5 A L) post)) ∧ (¬ x1 ≤ (2 : Int32) → (v_X6_span_93 x1 x2 x3 x4 x5 (x5 + (1 : Int32)) A L R_49 (fun x5 A L => v_X6_span_72 x1 x2 x3 x4 R_49 post n x5 A L) post))))
def v_X6_span_70 (x1 : Int32) (x2 : Int32) (x3 : Int32) (x4 : Int32) (s0 : Int32) (A : xM) (L : xL) (R_49 : Int32 → xM → xL → Prop) (post : Int32 → xM → xL → Prop) : Prop := ∃ k9 : Nat, v_X6_span_72 x1 x2 x3 x4 R_49 post k9 s0 A L
def v_X6_span_49 (x1 : Int32) (x2 : Int32) (x3 : Int32) (post : Int32 → xM → xL → Prop) : Nat → Int32 → xM → xL → Prop
  | 0, _, _, _ => False
  | n + 1, x4, A, L => ((12 : Int32) < x4 → (post (-1 : Int32) A L)) ∧ (¬ (12 : Int32) < x4 → ((x1 ≤ (1 : Int32) → (v_X6_span_70 x1 x2 x3 x4 (12 : Int32) A L (fun x4 A L => v_X6_span_49 x1 x2 x3 post n x4 A L) post)) ∧ (¬ x1 ≤ (1 : Int32) → (v_X6_span_70 x1 x2 x3 x4 (x4 + (1 : Int32)) A L (fun x4 A L => v_X6_span_49 x1 x2 x3 post n x4 A L) post))))
def v_X6_span (x1 : Int32) (x2 : Int32) (x3 : Int32) (A : xM) (L : xL) (post : Int32 → xM → xL → Prop) : Prop := v_X6_in (x1).toInt64 (1 : Int64) (3 : Int64) (fun (r_1 : Int32) => ((r_1 = 0 → (post (-1002 : Int32) A L)) ∧ (¬ r_1 = 0 → (v_X6_in (x2).toInt64 (1 : Int64) (100 : Int64) (fun (r_3 : Int32) => ((r_3 = 0 → (post (-1002 : Int32) A L)) ∧ (¬ r_3 = 0 → (v_X6_in (x3).toInt64 (0 : Int64) ((x1 - (1 : Int32))).toInt64 (fun (r_5 : Int32) => ((¬ r_5 = 0 → (∀ A_7 : xM, A_7 = xu A 23 9 x1 → (∃ k9 : Nat, v_X6_span_49 x1 x2 x3 post k9 (1 : Int32) A_7 L))) ∧ (r_5 = 0 → (post (-1002 : Int32) A L))))))))))))
section MECH
variable {p : Program} {l : Launch} {e : Env} {s : State} {m : MethodId} {args : Array Value} {below : List Frame} {meth : Method} {c : Code} {G : xGt}
set_option maxHeartbeats 4000000 in
set_option maxRecDepth 100000 in
theorem t_X6_span_95 (C0 : xC p s m args meth c G cX6_span (some .int) wsX6_span RX6 7) {post : Int32 → xM → xL → Prop} {x1 : Int32} {x2 : Int32} {x3 : Int32} {x4 : Int32} {x5 : Int32} {R_49 : Int32 → xM → xL → Prop} (hR_49 : ∀ (x4 : Int32) (A : xM) (L : xL) (H : Heap) (locs : List Loc) (ls : Array Slot), xW G s.heap A L H locs → lv_has ls 7 [(0, .ref (xad G 23)), (1, .int x1), (2, .int x2), (3, .int x3), (4, .int x4)] → R_49 x4 A L → W p l e rX6_span s m args below meth c H locs 0 0 (MQ below (xQi G post) args s 0 0 (xAf G)) (F0 m 49 ls [])) {R_72 : Int32 → xM → xL → Prop} (hR_72 : ∀ (x5 : Int32) (A : xM) (L : xL) (H : Heap) (locs : List Loc) (ls : Array Slot), xW G s.heap A L H locs → lv_has ls 7 [(0, .ref (xad G 23)), (1, .int x1), (2, .int x2), (3, .int x3), (4, .int x4), (5, .int x5)] → R_72 x5 A L → W p l e rX6_span s m args below meth c H locs 0 0 (MQ below (xQi G post) args s 0 0 (xAf G)) (F0 m 72 ls [])) : ∀ (n : Nat) (x6 : Int32) (A : xM) (L : xL) (H : Heap) (locs : List Loc) (ls : Array Slot), xW G s.heap A L H locs → lv_has ls 7 [(0, .ref (xad G 23)), (1, .int x1), (2, .int x2), (3, .int x3), (4, .int x4), (5, .int x5), (6, .int x6)] → v_X6_span_95 x1 x2 x3 x4 x5 R_49 R_72 post n x6 A L → W p l e rX6_span s m args below meth c H locs 0 0 (MQ below (xQi G post) args s 0 0 (xAf G)) (F0 m 95 ls []) := by
  obtain ⟨hx, hb, hr, hts, hown, hml, hlocks, hG⟩ := id C0
  intro n
  induction n with
  | zero => intro x6 A L H locs ls hw hl h; exact (show False from h).elim
  | succ n ih =>
    intro x6 A L H locs ls hw hl h
    unfold v_X6_span_95 at h
    refine lv_iload hx hb dX6_span_95 (lv_at hl 6 rfl) ?_
    refine lv_bipush (v := 12) hx hb dX6_span_97 (by decide) ?_
    refine lv_icmp_gt (tgt := 147) hx hb dX6_span_99 (by decide) (fun c_1 => ?_) (fun c_1 => ?_)
    · have h := h.1 c_1
      obtain ⟨x5_2, ex5_2⟩ : ∃ y : Int32, y = x5 + (1 : Int32) := ⟨_, rfl⟩
      have h := h x5_2 ex5_2
      refine lv_iinc (v := x5_2) (lv' := [(5, .int x5_2), (0, .ref (xad G 23)), (1, .int x1), (2, .int x2), (3, .int x3), (4, .int x4), (6, .int x6)]) hx hb dX6_span_147 hl (k := 5) rfl (by rw [ex5_2]; rfl) (by decide) rfl (fun ls hl => ?_)
      refine lv_goto (tgt := 72) hx hb dX6_span_150 (by decide) ?_
      exact hR_72 x5_2 A L _ _ _ hw (lv_sub hl [1, 2, 3, 4, 5, 0] rfl) h
    · have h := h.2 c_1
      refine lv_aload_n hx hb dX6_span_102 rfl (lv_at hl 0 rfl) ?_
      refine x_get (C := RX6) (T := TX6) (N := 20) hx hb hts inX6_span_X6 hown hG hw xO23 rfl 8 (by decide) (hts (.fieldLink RX6 26 "SixNumbersModel" "work" "[I") (List.mem_of_getElem? (i := 4) rfl)) (fun _ h9 => h9) (v := .ref (xad G 27)) rfl dX6_span_103 ?_
      refine lv_iconst (v := 0) hx hb dX6_span_106 (by decide) ?_
      refine lv_iload hx hb dX6_span_107 (lv_at hl 4 rfl) ?_
      have i_3 := h.1
      have h := h.2
      refine x_iast hx hb hG hw xb27 i_3 dX6_span_109 (fun A_4 H locs eA_4 hw => ?_)
      have h := h A_4 eA_4
      refine lv_aload_n hx hb dX6_span_110 rfl (lv_at hl 0 rfl) ?_
      refine x_get (C := RX6) (T := TX6) (N := 20) hx hb hts inX6_span_X6 hown hG hw xO23 rfl 8 (by decide) (hts (.fieldLink RX6 26 "SixNumbersModel" "work" "[I") (List.mem_of_getElem? (i := 4) rfl)) (fun _ h9 => h9) (v := .ref (xad G 27)) rfl dX6_span_111 ?_
      refine lv_iconst (v := 1) hx hb dX6_span_114 (by decide) ?_
      refine lv_iload hx hb dX6_span_115 (lv_at hl 5 rfl) ?_
      have i_5 := h.1
      have h := h.2
      refine x_iast hx hb hG hw xb27 i_5 dX6_span_117 (fun A_6 H locs eA_6 hw => ?_)
      have h := h A_6 eA_6
      refine lv_aload_n hx hb dX6_span_118 rfl (lv_at hl 0 rfl) ?_
      refine x_get (C := RX6) (T := TX6) (N := 20) hx hb hts inX6_span_X6 hown hG hw xO23 rfl 8 (by decide) (hts (.fieldLink RX6 26 "SixNumbersModel" "work" "[I") (List.mem_of_getElem? (i := 4) rfl)) (fun _ h9 => h9) (v := .ref (xad G 27)) rfl dX6_span_119 ?_
      refine lv_iconst (v := 2) hx hb dX6_span_122 (by decide) ?_
      refine lv_iload hx hb dX6_span_123 (lv_at hl 6 rfl) ?_
      have i_7 := h.1
      have h := h.2
      refine x_iast hx hb hG hw xb27 i_7 dX6_span_125 (fun A_8 H locs eA_8 hw => ?_)
      have h := h A_8 eA_8
      refine lv_aload_n hx hb dX6_span_126 rfl (lv_at hl 0 rfl) ?_
      refine lv_iload_n hx hb dX6_span_127 rfl (lv_at hl 2 rfl) ?_
      refine x_calli hG hw (va_runV (As := [.int x2]) (rest := []) ⟨hx, hb, hml, hown, hts⟩ (c_X6_spans (l := l) (G := G) h) (cwV 1 hts gX6_span_X6_spans rfl rfl rfl (by decide +kernel) ⟨Nat.le_of_ble_eq_true rfl, Nat.le_of_ble_eq_true rfl⟩) (x_preV hG hw xO23 rfl) rfl rfl hl.1 rfl (lv_room (Nat.le_of_ble_eq_true rfl)) dX6_span_128 ⟨Nat.le_of_ble_eq_true rfl, Nat.le_of_ble_eq_true rfl⟩) (fun r_9 A_10 L_11 H locs hw h => ?_)
      refine lv_if_eq (tgt := 141) hx hb dX6_span_131 (by decide) (fun c_12 => ?_) (fun c_12 => ?_)
      · have h := h.1 c_12
        obtain ⟨x6_13, ex6_13⟩ : ∃ y : Int32, y = x6 + (1 : Int32) := ⟨_, rfl⟩
        have h := h x6_13 ex6_13
        refine lv_iinc (v := x6_13) (lv' := [(6, .int x6_13), (0, .ref (xad G 23)), (1, .int x1), (2, .int x2), (3, .int x3), (4, .int x4), (5, .int x5)]) hx hb dX6_span_141 hl (k := 6) rfl (by rw [ex6_13]; rfl) (by decide) rfl (fun ls hl => ?_)
        refine lv_goto (tgt := 95) hx hb dX6_span_144 (by decide) ?_
        exact ih x6_13 A_10 L_11 _ _ _ hw (lv_sub hl [1, 2, 3, 4, 5, 6, 0] rfl) h
      · have h := h.2 c_12
        refine lv_aload_n hx hb dX6_span_134 rfl (lv_at hl 0 rfl) ?_
        refine x_get (C := RX6) (T := TX6) (N := 20) hx hb hts inX6_span_X6 hown hG hw xO23 rfl 8 (by decide) (hts (.fieldLink RX6 26 "SixNumbersModel" "work" "[I") (List.mem_of_getElem? (i := 4) rfl)) (fun _ h9 => h9) (v := .ref (xad G 27)) rfl dX6_span_135 ?_
        refine lv_iload_n hx hb dX6_span_138 rfl (lv_at hl 3 rfl) ?_
        have i_14 := h.1
        have h := h.2
        refine x_iald hx hb hG hw xb27 i_14 dX6_span_139 ?_
        exact x_iret hx hb hr hlocks hG hw h dX6_span_140
set_option maxHeartbeats 4000000 in
set_option maxRecDepth 100000 in
theorem t_X6_span_93 (C0 : xC p s m args meth c G cX6_span (some .int) wsX6_span RX6 7) {post : Int32 → xM → xL → Prop} {x1 : Int32} {x2 : Int32} {x3 : Int32} {x4 : Int32} {x5 : Int32} {s0 : Int32} {A : xM} {L : xL} {R_49 : Int32 → xM → xL → Prop} (hR_49 : ∀ (x4 : Int32) (A : xM) (L : xL) (H : Heap) (locs : List Loc) (ls : Array Slot), xW G s.heap A L H locs → lv_has ls 7 [(0, .ref (xad G 23)), (1, .int x1), (2, .int x2), (3, .int x3), (4, .int x4)] → R_49 x4 A L → W p l e rX6_span s m args below meth c H locs 0 0 (MQ below (xQi G post) args s 0 0 (xAf G)) (F0 m 49 ls [])) {R_72 : Int32 → xM → xL → Prop} (hR_72 : ∀ (x5 : Int32) (A : xM) (L : xL) (H : Heap) (locs : List Loc) (ls : Array Slot), xW G s.heap A L H locs → lv_has ls 7 [(0, .ref (xad G 23)), (1, .int x1), (2, .int x2), (3, .int x3), (4, .int x4), (5, .int x5)] → R_72 x5 A L → W p l e rX6_span s m args below meth c H locs 0 0 (MQ below (xQi G post) args s 0 0 (xAf G)) (F0 m 72 ls [])) {H : Heap} {locs : List Loc} {ls : Array Slot} (hw : xW G s.heap A L H locs) (hl : lv_has ls 7 [(0, .ref (xad G 23)), (1, .int x1), (2, .int x2), (3, .int x3), (4, .int x4), (5, .int x5)]) (h : v_X6_span_93 x1 x2 x3 x4 x5 s0 A L R_49 R_72 post) : W p l e rX6_span s m args below meth c H locs 0 0 (MQ below (xQi G post) args s 0 0 (xAf G)) (F0 m 93 ls [.int s0]) := by
  obtain ⟨hx, hb, hr, hts, hown, hml, hlocks, hG⟩ := id C0
  unfold v_X6_span_93 at h
  refine lv_istore (lv' := [(6, .int s0), (0, .ref (xad G 23)), (1, .int x1), (2, .int x2), (3, .int x3), (4, .int x4), (5, .int x5)]) hx hb dX6_span_93 hl (by decide) rfl (fun ls hl => ?_)
  obtain ⟨n9, h⟩ := h
  exact t_X6_span_95 C0 hR_49 hR_72 n9 s0 A L _ _ _ hw (lv_sub hl [1, 2, 3, 4, 5, 6, 0] rfl) h
set_option maxHeartbeats 4000000 in
set_option maxRecDepth 100000 in
theorem t_X6_span_72 (C0 : xC p s m args meth c G cX6_span (some .int) wsX6_span RX6 7) {post : Int32 → xM → xL → Prop} {x1 : Int32} {x2 : Int32} {x3 : Int32} {x4 : Int32} {R_49 : Int32 → xM → xL → Prop} (hR_49 : ∀ (x4 : Int32) (A : xM) (L : xL) (H : Heap) (locs : List Loc) (ls : Array Slot), xW G s.heap A L H locs → lv_has ls 7 [(0, .ref (xad G 23)), (1, .int x1), (2, .int x2), (3, .int x3), (4, .int x4)] → R_49 x4 A L → W p l e rX6_span s m args below meth c H locs 0 0 (MQ below (xQi G post) args s 0 0 (xAf G)) (F0 m 49 ls [])) : ∀ (n : Nat) (x5 : Int32) (A : xM) (L : xL) (H : Heap) (locs : List Loc) (ls : Array Slot), xW G s.heap A L H locs → lv_has ls 7 [(0, .ref (xad G 23)), (1, .int x1), (2, .int x2), (3, .int x3), (4, .int x4), (5, .int x5)] → v_X6_span_72 x1 x2 x3 x4 R_49 post n x5 A L → W p l e rX6_span s m args below meth c H locs 0 0 (MQ below (xQi G post) args s 0 0 (xAf G)) (F0 m 72 ls []) := by
  obtain ⟨hx, hb, hr, hts, hown, hml, hlocks, hG⟩ := id C0
  intro n
  induction n with
  | zero => intro x5 A L H locs ls hw hl h; exact (show False from h).elim
  | succ n ih =>
    intro x5 A L H locs ls hw hl h
    unfold v_X6_span_72 at h
    refine lv_iload hx hb dX6_span_72 (lv_at hl 5 rfl) ?_
    refine lv_bipush (v := 12) hx hb dX6_span_74 (by decide) ?_
    refine lv_icmp_gt (tgt := 153) hx hb dX6_span_76 (by decide) (fun c_1 => ?_) (fun c_1 => ?_)
    · have h := h.1 c_1
      obtain ⟨x4_2, ex4_2⟩ : ∃ y : Int32, y = x4 + (1 : Int32) := ⟨_, rfl⟩
      have h := h x4_2 ex4_2
      refine lv_iinc (v := x4_2) (lv' := [(4, .int x4_2), (0, .ref (xad G 23)), (1, .int x1), (2, .int x2), (3, .int x3), (5, .int x5)]) hx hb dX6_span_153 hl (k := 4) rfl (by rw [ex4_2]; rfl) (by decide) rfl (fun ls hl => ?_)
      refine lv_goto (tgt := 49) hx hb dX6_span_156 (by decide) ?_
      exact hR_49 x4_2 A L _ _ _ hw (lv_sub hl [1, 2, 3, 4, 0] rfl) h
    · have h := h.2 c_1
      refine lv_iload_n hx hb dX6_span_79 rfl (lv_at hl 1 rfl) ?_
      refine lv_iconst (v := 2) hx hb dX6_span_80 (by decide) ?_
      refine lv_icmp_le (tgt := 91) hx hb dX6_span_81 (by decide) (fun c_3 => ?_) (fun c_3 => ?_)
      · have h := h.1 c_3
        refine lv_bipush (v := 12) hx hb dX6_span_91 (by decide) ?_
        exact t_X6_span_93 C0 hR_49 ih hw (lv_sub hl [0, 1, 2, 3, 4, 5] rfl) h
      · have h := h.2 c_3
        refine lv_iload hx hb dX6_span_84 (lv_at hl 5 rfl) ?_
        refine lv_iconst (v := 1) hx hb dX6_span_86 (by decide) ?_
        refine lv_iadd hx hb dX6_span_87 ?_
        refine lv_goto (tgt := 93) hx hb dX6_span_88 (by decide) ?_
        exact t_X6_span_93 C0 hR_49 ih hw (lv_sub hl [0, 1, 2, 3, 4, 5] rfl) h
set_option maxHeartbeats 4000000 in
set_option maxRecDepth 100000 in
theorem t_X6_span_70 (C0 : xC p s m args meth c G cX6_span (some .int) wsX6_span RX6 7) {post : Int32 → xM → xL → Prop} {x1 : Int32} {x2 : Int32} {x3 : Int32} {x4 : Int32} {s0 : Int32} {A : xM} {L : xL} {R_49 : Int32 → xM → xL → Prop} (hR_49 : ∀ (x4 : Int32) (A : xM) (L : xL) (H : Heap) (locs : List Loc) (ls : Array Slot), xW G s.heap A L H locs → lv_has ls 7 [(0, .ref (xad G 23)), (1, .int x1), (2, .int x2), (3, .int x3), (4, .int x4)] → R_49 x4 A L → W p l e rX6_span s m args below meth c H locs 0 0 (MQ below (xQi G post) args s 0 0 (xAf G)) (F0 m 49 ls [])) {H : Heap} {locs : List Loc} {ls : Array Slot} (hw : xW G s.heap A L H locs) (hl : lv_has ls 7 [(0, .ref (xad G 23)), (1, .int x1), (2, .int x2), (3, .int x3), (4, .int x4)]) (h : v_X6_span_70 x1 x2 x3 x4 s0 A L R_49 post) : W p l e rX6_span s m args below meth c H locs 0 0 (MQ below (xQi G post) args s 0 0 (xAf G)) (F0 m 70 ls [.int s0]) := by
  obtain ⟨hx, hb, hr, hts, hown, hml, hlocks, hG⟩ := id C0
  unfold v_X6_span_70 at h
  refine lv_istore (lv' := [(5, .int s0), (0, .ref (xad G 23)), (1, .int x1), (2, .int x2), (3, .int x3), (4, .int x4)]) hx hb dX6_span_70 hl (by decide) rfl (fun ls hl => ?_)
  obtain ⟨n9, h⟩ := h
  exact t_X6_span_72 C0 hR_49 n9 s0 A L _ _ _ hw (lv_sub hl [1, 2, 3, 4, 5, 0] rfl) h
set_option maxHeartbeats 4000000 in
set_option maxRecDepth 100000 in
theorem t_X6_span_49 (C0 : xC p s m args meth c G cX6_span (some .int) wsX6_span RX6 7) {post : Int32 → xM → xL → Prop} {x1 : Int32} {x2 : Int32} {x3 : Int32} : ∀ (n : Nat) (x4 : Int32) (A : xM) (L : xL) (H : Heap) (locs : List Loc) (ls : Array Slot), xW G s.heap A L H locs → lv_has ls 7 [(0, .ref (xad G 23)), (1, .int x1), (2, .int x2), (3, .int x3), (4, .int x4)] → v_X6_span_49 x1 x2 x3 post n x4 A L → W p l e rX6_span s m args below meth c H locs 0 0 (MQ below (xQi G post) args s 0 0 (xAf G)) (F0 m 49 ls []) := by
  obtain ⟨hx, hb, hr, hts, hown, hml, hlocks, hG⟩ := id C0
  intro n
  induction n with
  | zero => intro x4 A L H locs ls hw hl h; exact (show False from h).elim
  | succ n ih =>
    intro x4 A L H locs ls hw hl h
    unfold v_X6_span_49 at h
    refine lv_iload hx hb dX6_span_49 (lv_at hl 4 rfl) ?_
    refine lv_bipush (v := 12) hx hb dX6_span_51 (by decide) ?_
    refine lv_icmp_gt (tgt := 159) hx hb dX6_span_53 (by decide) (fun c_1 => ?_) (fun c_1 => ?_)
    · have h := h.1 c_1
      refine lv_iconst (v := (-1)) hx hb dX6_span_159 (by decide) ?_
      exact x_iret hx hb hr hlocks hG hw h dX6_span_160
    · have h := h.2 c_1
      refine lv_iload_n hx hb dX6_span_56 rfl (lv_at hl 1 rfl) ?_
      refine lv_iconst (v := 1) hx hb dX6_span_57 (by decide) ?_
      refine lv_icmp_le (tgt := 68) hx hb dX6_span_58 (by decide) (fun c_2 => ?_) (fun c_2 => ?_)
      · have h := h.1 c_2
        refine lv_bipush (v := 12) hx hb dX6_span_68 (by decide) ?_
        exact t_X6_span_70 C0 ih hw (lv_sub hl [0, 1, 2, 3, 4] rfl) h
      · have h := h.2 c_2
        refine lv_iload hx hb dX6_span_61 (lv_at hl 4 rfl) ?_
        refine lv_iconst (v := 1) hx hb dX6_span_63 (by decide) ?_
        refine lv_iadd hx hb dX6_span_64 ?_
        refine lv_goto (tgt := 70) hx hb dX6_span_65 (by decide) ?_
        exact t_X6_span_70 C0 ih hw (lv_sub hl [0, 1, 2, 3, 4] rfl) h
set_option maxHeartbeats 4000000 in
set_option maxRecDepth 100000 in
theorem t_X6_span_0 (C0 : xC p s m args meth c G cX6_span (some .int) wsX6_span RX6 7) {post : Int32 → xM → xL → Prop} {x1 : Int32} {x2 : Int32} {x3 : Int32} {A : xM} {L : xL} {H : Heap} {locs : List Loc} {ls : Array Slot} (hw : xW G s.heap A L H locs) (hl : lv_has ls 7 [(0, .ref (xad G 23)), (1, .int x1), (2, .int x2), (3, .int x3)]) (h : v_X6_span x1 x2 x3 A L post) : W p l e rX6_span s m args below meth c H locs 0 0 (MQ below (xQi G post) args s 0 0 (xAf G)) (F0 m 0 ls []) := by
  obtain ⟨hx, hb, hr, hts, hown, hml, hlocks, hG⟩ := id C0
  unfold v_X6_span at h
  refine lv_iload_n hx hb dX6_span_0 rfl (lv_at hl 1 rfl) ?_
  refine lv_i2l hx hb dX6_span_1 rfl ?_
  refine lv_lconst (v := 1) hx hb dX6_span_2 (by decide) ?_
  refine lv_ldc2 (v := (3 : Int64)) hx hb hown (hts _ (List.mem_of_getElem? (i := 1) rfl)) dX6_span_3 ?_
  refine x_calli hG hw (va_runS (As := [.long (x1).toInt64, .long (1 : Int64), .long (3 : Int64)]) (rest := []) ⟨hx, hb, hml, hown, hts⟩ (c_X6_in (l := l) (G := G) h) (va_cwS 3 hts gX6_span_X6_in rfl rfl rfl (by decide +kernel) ⟨Nat.le_of_ble_eq_true rfl, Nat.le_of_ble_eq_true rfl⟩) (x_preS hG hw) rfl rfl hl.1 rfl (lv_room (Nat.le_of_ble_eq_true rfl)) dX6_span_6 ⟨Nat.le_of_ble_eq_true rfl, Nat.le_of_ble_eq_true rfl⟩) (fun r_1 A9 L9 H locs hw h => ?_)
  rw [h.2.1, h.2.2] at hw
  have h := h.1
  refine lv_if_eq (tgt := 37) hx hb dX6_span_9 (by decide) (fun c_2 => ?_) (fun c_2 => ?_)
  · have h := h.1 c_2
    refine lv_sipush (v := (-1002)) hx hb dX6_span_37 (by decide) ?_
    exact x_iret hx hb hr hlocks hG hw h dX6_span_40
  · have h := h.2 c_2
    refine lv_iload_n hx hb dX6_span_12 rfl (lv_at hl 2 rfl) ?_
    refine lv_i2l hx hb dX6_span_13 rfl ?_
    refine lv_lconst (v := 1) hx hb dX6_span_14 (by decide) ?_
    refine lv_ldc2 (v := (100 : Int64)) hx hb hown (hts _ (List.mem_of_getElem? (i := 2) rfl)) dX6_span_15 ?_
    refine x_calli hG hw (va_runS (As := [.long (x2).toInt64, .long (1 : Int64), .long (100 : Int64)]) (rest := []) ⟨hx, hb, hml, hown, hts⟩ (c_X6_in (l := l) (G := G) h) (va_cwS 3 hts gX6_span_X6_in rfl rfl rfl (by decide +kernel) ⟨Nat.le_of_ble_eq_true rfl, Nat.le_of_ble_eq_true rfl⟩) (x_preS hG hw) rfl rfl hl.1 rfl (lv_room (Nat.le_of_ble_eq_true rfl)) dX6_span_18 ⟨Nat.le_of_ble_eq_true rfl, Nat.le_of_ble_eq_true rfl⟩) (fun r_3 A9 L9 H locs hw h => ?_)
    rw [h.2.1, h.2.2] at hw
    have h := h.1
    refine lv_if_eq (tgt := 37) hx hb dX6_span_21 (by decide) (fun c_4 => ?_) (fun c_4 => ?_)
    · have h := h.1 c_4
      refine lv_sipush (v := (-1002)) hx hb dX6_span_37 (by decide) ?_
      exact x_iret hx hb hr hlocks hG hw h dX6_span_40
    · have h := h.2 c_4
      refine lv_iload_n hx hb dX6_span_24 rfl (lv_at hl 3 rfl) ?_
      refine lv_i2l hx hb dX6_span_25 rfl ?_
      refine lv_lconst (v := 0) hx hb dX6_span_26 (by decide) ?_
      refine lv_iload_n hx hb dX6_span_27 rfl (lv_at hl 1 rfl) ?_
      refine lv_iconst (v := 1) hx hb dX6_span_28 (by decide) ?_
      refine lv_isub hx hb dX6_span_29 ?_
      refine lv_i2l hx hb dX6_span_30 rfl ?_
      refine x_calli hG hw (va_runS (As := [.long (x3).toInt64, .long (0 : Int64), .long ((x1 - (1 : Int32))).toInt64]) (rest := []) ⟨hx, hb, hml, hown, hts⟩ (c_X6_in (l := l) (G := G) h) (va_cwS 3 hts gX6_span_X6_in rfl rfl rfl (by decide +kernel) ⟨Nat.le_of_ble_eq_true rfl, Nat.le_of_ble_eq_true rfl⟩) (x_preS hG hw) rfl rfl hl.1 rfl (lv_room (Nat.le_of_ble_eq_true rfl)) dX6_span_31 ⟨Nat.le_of_ble_eq_true rfl, Nat.le_of_ble_eq_true rfl⟩) (fun r_5 A9 L9 H locs hw h => ?_)
      rw [h.2.1, h.2.2] at hw
      have h := h.1
      refine lv_if_ne (tgt := 41) hx hb dX6_span_34 (by decide) (fun c_6 => ?_) (fun c_6 => ?_)
      · have h := h.1 c_6
        refine lv_aload_n hx hb dX6_span_41 rfl (lv_at hl 0 rfl) ?_
        refine lv_iload_n hx hb dX6_span_42 rfl (lv_at hl 1 rfl) ?_
        refine x_put (C := RX6) (T := TX6) (N := 20) hx hb hts inX6_span_X6 tyX6 tyX6_ok nmX6 hown hG hw xO23 rfl 9 (by decide) (hts (.fieldLink RX6 96 "SixNumbersModel" "works" "I") (List.mem_of_getElem? (i := 3) rfl)) (fun _ h9 => h9) rfl (ty := .int) (by decide +kernel) rfl rfl (Nat.le_of_ble_eq_true rfl) rfl dX6_span_43 (fun A_7 H locs eA_7 hw => ?_)
        have h := h A_7 eA_7
        refine lv_iconst (v := 1) hx hb dX6_span_46 (by decide) ?_
        refine lv_istore (lv' := [(4, .int (1 : Int32)), (0, .ref (xad G 23)), (1, .int x1), (2, .int x2), (3, .int x3)]) hx hb dX6_span_47 hl (by decide) rfl (fun ls hl => ?_)
        obtain ⟨n9, h⟩ := h
        exact t_X6_span_49 C0 n9 (1 : Int32) A_7 L _ _ _ hw (lv_sub hl [1, 2, 3, 4, 0] rfl) h
      · have h := h.2 c_6
        refine lv_sipush (v := (-1002)) hx hb dX6_span_37 (by decide) ?_
        exact x_iret hx hb hr hlocks hG hw h dX6_span_40
theorem c_X6_span {l : Launch} {G : xGt} {x1 : Int32} {x2 : Int32} {x3 : Int32} {A : xM} {L : xL} {post : Int32 → xM → xL → Prop} (h : v_X6_span x1 x2 x3 A L post) : Met l yX6_span wsX6_span rX6_span (va_Pc [.ref (xad G 23), .int x1, .int x2, .int x3] (xPre G A L)) (xQi G post) 0 0 (xAf G) :=
  x_met RX6 rfl (by decide) rfl (Nat.le_of_ble_eq_true rfl) (fun p e s m below meth c ls C0 hw hl => t_X6_span_0 C0 hw hl h)
end MECH
abbrev rX6_root : Room := { frames := 0, cells := 0, slots := 0, locals := 0 }
def v_X6_root_2 (x0 : Int32) (post : Int32 → Prop) : Nat → Int32 → Prop
  | 0, _ => False
  | n + 1, x1 => (x0 < ((x1 + (1 : Int32)) * (x1 + (1 : Int32))) → (post x1)) ∧ (¬ x0 < ((x1 + (1 : Int32)) * (x1 + (1 : Int32))) → (∀ x1_2 : Int32, x1_2 = x1 + (1 : Int32) → (v_X6_root_2 x0 post n x1_2)))
def v_X6_root (x0 : Int32) (post : Int32 → Prop) : Prop := ∃ k9 : Nat, v_X6_root_2 x0 post k9 (0 : Int32)
section MECH
variable {p : Program} {l : Launch} {e : Env} {s : State} {m : MethodId} {args : Array Value} {below : List Frame} {meth : Method} {c : Code} {G : xGt}
set_option maxHeartbeats 4000000 in
set_option maxRecDepth 100000 in
theorem t_X6_root_2 (C0 : xC p s m args meth c G cX6_root (some .int) wsX6_root RX6 2) {post : Int32 → Prop} {x0 : Int32} {A : xM} {L : xL} : ∀ (n : Nat) (x1 : Int32) (H : Heap) (locs : List Loc) (ls : Array Slot), xW G s.heap A L H locs → lv_has ls 2 [(0, .int x0), (1, .int x1)] → v_X6_root_2 x0 post n x1 → W p l e rX6_root s m args below meth c H locs 0 0 (MQ below (xQi G (xpi A L post)) args s 0 0 (xAf G)) (F0 m 2 ls []) := by
  obtain ⟨hx, hb, hr, hts, hown, hml, hlocks, hG⟩ := id C0
  intro n
  induction n with
  | zero => intro x1 H locs ls hw hl h; exact (show False from h).elim
  | succ n ih =>
    intro x1 H locs ls hw hl h
    unfold v_X6_root_2 at h
    refine lv_iload_n hx hb dX6_root_2 rfl (lv_at hl 1 rfl) ?_
    refine lv_iconst (v := 1) hx hb dX6_root_3 (by decide) ?_
    refine lv_iadd hx hb dX6_root_4 ?_
    refine lv_iload_n hx hb dX6_root_5 rfl (lv_at hl 1 rfl) ?_
    refine lv_iconst (v := 1) hx hb dX6_root_6 (by decide) ?_
    refine lv_iadd hx hb dX6_root_7 ?_
    refine lv_imul hx hb dX6_root_8 ?_
    refine lv_iload_n hx hb dX6_root_9 rfl (lv_at hl 0 rfl) ?_
    refine lv_icmp_gt (tgt := 19) hx hb dX6_root_10 (by decide) (fun c_1 => ?_) (fun c_1 => ?_)
    · have h := h.1 c_1
      refine lv_iload_n hx hb dX6_root_19 rfl (lv_at hl 1 rfl) ?_
      exact x_iret hx hb hr hlocks hG hw ⟨h, rfl, rfl⟩ dX6_root_20
    · have h := h.2 c_1
      obtain ⟨x1_2, ex1_2⟩ : ∃ y : Int32, y = x1 + (1 : Int32) := ⟨_, rfl⟩
      have h := h x1_2 ex1_2
      refine lv_iinc (v := x1_2) (lv' := [(1, .int x1_2), (0, .int x0)]) hx hb dX6_root_13 hl (k := 1) rfl (by rw [ex1_2]; rfl) (by decide) rfl (fun ls hl => ?_)
      refine lv_goto (tgt := 2) hx hb dX6_root_16 (by decide) ?_
      exact ih x1_2 _ _ _ hw (lv_sub hl [1, 0] rfl) h
set_option maxHeartbeats 4000000 in
set_option maxRecDepth 100000 in
theorem t_X6_root_0 (C0 : xC p s m args meth c G cX6_root (some .int) wsX6_root RX6 2) {post : Int32 → Prop} {x0 : Int32} {A : xM} {L : xL} {H : Heap} {locs : List Loc} {ls : Array Slot} (hw : xW G s.heap A L H locs) (hl : lv_has ls 2 [(0, .int x0)]) (h : v_X6_root x0 post) : W p l e rX6_root s m args below meth c H locs 0 0 (MQ below (xQi G (xpi A L post)) args s 0 0 (xAf G)) (F0 m 0 ls []) := by
  obtain ⟨hx, hb, hr, hts, hown, hml, hlocks, hG⟩ := id C0
  unfold v_X6_root at h
  refine lv_iconst (v := 0) hx hb dX6_root_0 (by decide) ?_
  refine lv_istore_n (lv' := [(1, .int (0 : Int32)), (0, .int x0)]) hx hb dX6_root_1 rfl hl (by decide) rfl (fun ls hl => ?_)
  obtain ⟨n9, h⟩ := h
  exact t_X6_root_2 C0 n9 (0 : Int32) _ _ _ hw (lv_sub hl [1, 0] rfl) h
theorem c_X6_root {l : Launch} {G : xGt} {x0 : Int32} {A : xM} {L : xL} {post : Int32 → Prop} (h : v_X6_root x0 post) : Met l yX6_root wsX6_root rX6_root (va_Pc [.int x0] (xPre G A L)) (xQi G (xpi A L post)) 0 0 (xAf G) :=
  x_met RX6 rfl (by decide) rfl (Nat.le_of_ble_eq_true rfl) (fun p e s m below meth c ls C0 hw hl => t_X6_root_0 C0 hw hl h)
end MECH
abbrev rX6_signed : Room := { frames := 1, cells := 0, slots := 0, locals := 21 }
def v_X6_signed_39 (x1 : Int32) (x2 : Int32) (post : Int32 → Prop) : Prop := ((7 : Int32) < x1 → (post (-1 : Int32))) ∧ (¬ (7 : Int32) < x1 → (post x2))
def v_X6_signed_18 (x1 : Int32) (post : Int32 → Prop) : Nat → Int32 → Int32 → Prop
  | 0, _, _ => False
  | n + 1, x2, x3 => (x1 < x3 → (v_X6_signed_39 x1 x2 post)) ∧ (¬ x1 < x3 → (((7 : Int32) < x1 → (v_X6_signed_39 x1 x2 post)) ∧ (¬ (7 : Int32) < x1 → (∀ x2_3 : Int32, x2_3 = (x2 * x3) → (∀ x3_4 : Int32, x3_4 = x3 + (1 : Int32) → (v_X6_signed_18 x1 post n x2_3 x3_4))))))
def v_X6_signed (x0 : Int32) (x1 : Int32) (post : Int32 → Prop) : Prop := (¬ x0 = 0 → ((¬ x0 = (1 : Int32) → ((¬ x0 = (2 : Int32) → (post (x1 - (1 : Int32)))) ∧ (x0 = (2 : Int32) → (((70 : Int32) < x1 → (post (-1 : Int32))) ∧ (¬ (70 : Int32) < x1 → (post ((x1 * (x1 + (1 : Int32))) / (2 : Int32)))))))) ∧ (x0 = (1 : Int32) → (∃ k9 : Nat, v_X6_signed_18 x1 post k9 (1 : Int32) (2 : Int32))))) ∧ (x0 = 0 → (v_X6_root x1 (fun (r_5 : Int32) => (post r_5))))
section MECH
variable {p : Program} {l : Launch} {e : Env} {s : State} {m : MethodId} {args : Array Value} {below : List Frame} {meth : Method} {c : Code} {G : xGt}
set_option maxHeartbeats 4000000 in
set_option maxRecDepth 100000 in
theorem t_X6_signed_39 (C0 : xC p s m args meth c G cX6_signed (some .int) wsX6_signed RX6 4) {post : Int32 → Prop} {x1 : Int32} {x2 : Int32} {A : xM} {L : xL} {H : Heap} {locs : List Loc} {ls : Array Slot} (hw : xW G s.heap A L H locs) (hl : lv_has ls 4 [(1, .int x1), (2, .int x2)]) (h : v_X6_signed_39 x1 x2 post) : W p l e rX6_signed s m args below meth c H locs 0 0 (MQ below (xQi G (xpi A L post)) args s 0 0 (xAf G)) (F0 m 39 ls []) := by
  obtain ⟨hx, hb, hr, hts, hown, hml, hlocks, hG⟩ := id C0
  unfold v_X6_signed_39 at h
  refine lv_iload_n hx hb dX6_signed_39 rfl (lv_at hl 0 rfl) ?_
  refine lv_bipush (v := 7) hx hb dX6_signed_40 (by decide) ?_
  refine lv_icmp_gt (tgt := 49) hx hb dX6_signed_42 (by decide) (fun c_1 => ?_) (fun c_1 => ?_)
  · have h := h.1 c_1
    refine lv_iconst (v := (-1)) hx hb dX6_signed_49 (by decide) ?_
    exact x_iret hx hb hr hlocks hG hw ⟨h, rfl, rfl⟩ dX6_signed_50
  · have h := h.2 c_1
    refine lv_iload_n hx hb dX6_signed_45 rfl (lv_at hl 1 rfl) ?_
    refine lv_goto (tgt := 50) hx hb dX6_signed_46 (by decide) ?_
    exact x_iret hx hb hr hlocks hG hw ⟨h, rfl, rfl⟩ dX6_signed_50
set_option maxHeartbeats 4000000 in
set_option maxRecDepth 100000 in
theorem t_X6_signed_18 (C0 : xC p s m args meth c G cX6_signed (some .int) wsX6_signed RX6 4) {post : Int32 → Prop} {x1 : Int32} {A : xM} {L : xL} : ∀ (n : Nat) (x2 : Int32) (x3 : Int32) (H : Heap) (locs : List Loc) (ls : Array Slot), xW G s.heap A L H locs → lv_has ls 4 [(1, .int x1), (2, .int x2), (3, .int x3)] → v_X6_signed_18 x1 post n x2 x3 → W p l e rX6_signed s m args below meth c H locs 0 0 (MQ below (xQi G (xpi A L post)) args s 0 0 (xAf G)) (F0 m 18 ls []) := by
  obtain ⟨hx, hb, hr, hts, hown, hml, hlocks, hG⟩ := id C0
  intro n
  induction n with
  | zero => intro x2 x3 H locs ls hw hl h; exact (show False from h).elim
  | succ n ih =>
    intro x2 x3 H locs ls hw hl h
    unfold v_X6_signed_18 at h
    refine lv_iload_n hx hb dX6_signed_18 rfl (lv_at hl 2 rfl) ?_
    refine lv_iload_n hx hb dX6_signed_19 rfl (lv_at hl 0 rfl) ?_
    refine lv_icmp_gt (tgt := 39) hx hb dX6_signed_20 (by decide) (fun c_1 => ?_) (fun c_1 => ?_)
    · have h := h.1 c_1
      exact t_X6_signed_39 C0 hw (lv_sub hl [0, 1] rfl) h
    · have h := h.2 c_1
      refine lv_iload_n hx hb dX6_signed_23 rfl (lv_at hl 0 rfl) ?_
      refine lv_bipush (v := 7) hx hb dX6_signed_24 (by decide) ?_
      refine lv_icmp_gt (tgt := 39) hx hb dX6_signed_26 (by decide) (fun c_2 => ?_) (fun c_2 => ?_)
      · have h := h.1 c_2
        exact t_X6_signed_39 C0 hw (lv_sub hl [0, 1] rfl) h
      · have h := h.2 c_2
        refine lv_iload_n hx hb dX6_signed_29 rfl (lv_at hl 1 rfl) ?_
        refine lv_iload_n hx hb dX6_signed_30 rfl (lv_at hl 2 rfl) ?_
        refine lv_imul hx hb dX6_signed_31 ?_
        refine lv_topi (fun x2_3 ex2_3 => ?_)
        have h := h x2_3 ex2_3
        refine lv_istore_n (lv' := [(2, .int x2_3), (1, .int x1), (3, .int x3)]) hx hb dX6_signed_32 rfl hl (by decide) rfl (fun ls hl => ?_)
        obtain ⟨x3_4, ex3_4⟩ : ∃ y : Int32, y = x3 + (1 : Int32) := ⟨_, rfl⟩
        have h := h x3_4 ex3_4
        refine lv_iinc (v := x3_4) (lv' := [(3, .int x3_4), (2, .int x2_3), (1, .int x1)]) hx hb dX6_signed_33 hl (k := 2) rfl (by rw [ex3_4]; rfl) (by decide) rfl (fun ls hl => ?_)
        refine lv_goto (tgt := 18) hx hb dX6_signed_36 (by decide) ?_
        exact ih x2_3 x3_4 _ _ _ hw (lv_sub hl [2, 1, 0] rfl) h
set_option maxHeartbeats 4000000 in
set_option maxRecDepth 100000 in
theorem t_X6_signed_0 (C0 : xC p s m args meth c G cX6_signed (some .int) wsX6_signed RX6 4) {post : Int32 → Prop} {x0 : Int32} {x1 : Int32} {A : xM} {L : xL} {H : Heap} {locs : List Loc} {ls : Array Slot} (hw : xW G s.heap A L H locs) (hl : lv_has ls 4 [(0, .int x0), (1, .int x1)]) (h : v_X6_signed x0 x1 post) : W p l e rX6_signed s m args below meth c H locs 0 0 (MQ below (xQi G (xpi A L post)) args s 0 0 (xAf G)) (F0 m 0 ls []) := by
  obtain ⟨hx, hb, hr, hts, hown, hml, hlocks, hG⟩ := id C0
  unfold v_X6_signed at h
  refine lv_iload_n hx hb dX6_signed_0 rfl (lv_at hl 0 rfl) ?_
  refine lv_if_ne (tgt := 9) hx hb dX6_signed_1 (by decide) (fun c_1 => ?_) (fun c_1 => ?_)
  · have h := h.1 c_1
    refine lv_iload_n hx hb dX6_signed_9 rfl (lv_at hl 0 rfl) ?_
    refine lv_iconst (v := 1) hx hb dX6_signed_10 (by decide) ?_
    refine lv_icmp_ne (tgt := 51) hx hb dX6_signed_11 (by decide) (fun c_2 => ?_) (fun c_2 => ?_)
    · have h := h.1 c_2
      refine lv_iload_n hx hb dX6_signed_51 rfl (lv_at hl 0 rfl) ?_
      refine lv_iconst (v := 2) hx hb dX6_signed_52 (by decide) ?_
      refine lv_icmp_ne (tgt := 74) hx hb dX6_signed_53 (by decide) (fun c_3 => ?_) (fun c_3 => ?_)
      · have h := h.1 c_3
        refine lv_iload_n hx hb dX6_signed_74 rfl (lv_at hl 1 rfl) ?_
        refine lv_iconst (v := 1) hx hb dX6_signed_75 (by decide) ?_
        refine lv_isub hx hb dX6_signed_76 ?_
        exact x_iret hx hb hr hlocks hG hw ⟨h, rfl, rfl⟩ dX6_signed_77
      · have h := h.2 c_3
        refine lv_iload_n hx hb dX6_signed_56 rfl (lv_at hl 1 rfl) ?_
        refine lv_bipush (v := 70) hx hb dX6_signed_57 (by decide) ?_
        refine lv_icmp_gt (tgt := 72) hx hb dX6_signed_59 (by decide) (fun c_4 => ?_) (fun c_4 => ?_)
        · have h := h.1 c_4
          refine lv_iconst (v := (-1)) hx hb dX6_signed_72 (by decide) ?_
          exact x_iret hx hb hr hlocks hG hw ⟨h, rfl, rfl⟩ dX6_signed_73
        · have h := h.2 c_4
          refine lv_iload_n hx hb dX6_signed_62 rfl (lv_at hl 1 rfl) ?_
          refine lv_iload_n hx hb dX6_signed_63 rfl (lv_at hl 1 rfl) ?_
          refine lv_iconst (v := 1) hx hb dX6_signed_64 (by decide) ?_
          refine lv_iadd hx hb dX6_signed_65 ?_
          refine lv_imul hx hb dX6_signed_66 ?_
          refine lv_iconst (v := 2) hx hb dX6_signed_67 (by decide) ?_
          refine lv_idiv hx hb dX6_signed_68 (by decide) ?_
          refine lv_goto (tgt := 73) hx hb dX6_signed_69 (by decide) ?_
          exact x_iret hx hb hr hlocks hG hw ⟨h, rfl, rfl⟩ dX6_signed_73
    · have h := h.2 c_2
      refine lv_iconst (v := 1) hx hb dX6_signed_14 (by decide) ?_
      refine lv_istore_n (lv' := [(2, .int (1 : Int32)), (0, .int x0), (1, .int x1)]) hx hb dX6_signed_15 rfl hl (by decide) rfl (fun ls hl => ?_)
      refine lv_iconst (v := 2) hx hb dX6_signed_16 (by decide) ?_
      refine lv_istore_n (lv' := [(3, .int (2 : Int32)), (2, .int (1 : Int32)), (0, .int x0), (1, .int x1)]) hx hb dX6_signed_17 rfl hl (by decide) rfl (fun ls hl => ?_)
      obtain ⟨n9, h⟩ := h
      exact t_X6_signed_18 C0 n9 (1 : Int32) (2 : Int32) _ _ _ hw (lv_sub hl [3, 1, 0] rfl) h
  · have h := h.2 c_1
    refine lv_iload_n hx hb dX6_signed_4 rfl (lv_at hl 1 rfl) ?_
    refine x_calli hG hw (va_runS (As := [.int x1]) (rest := []) ⟨hx, hb, hml, hown, hts⟩ (c_X6_root (l := l) (G := G) h) (va_cwS 1 hts gX6_signed_X6_root rfl rfl rfl (by decide +kernel) ⟨Nat.le_of_ble_eq_true rfl, Nat.le_of_ble_eq_true rfl⟩) (x_preS hG hw) rfl rfl hl.1 rfl (lv_room (Nat.le_of_ble_eq_true rfl)) dX6_signed_5 ⟨Nat.le_of_ble_eq_true rfl, Nat.le_of_ble_eq_true rfl⟩) (fun r_5 A9 L9 H locs hw h => ?_)
    rw [h.2.1, h.2.2] at hw
    have h := h.1
    exact x_iret hx hb hr hlocks hG hw ⟨h, rfl, rfl⟩ dX6_signed_8
theorem c_X6_signed {l : Launch} {G : xGt} {x0 : Int32} {x1 : Int32} {A : xM} {L : xL} {post : Int32 → Prop} (h : v_X6_signed x0 x1 post) : Met l yX6_signed wsX6_signed rX6_signed (va_Pc [.int x0, .int x1] (xPre G A L)) (xQi G (xpi A L post)) 0 0 (xAf G) :=
  x_met RX6 rfl (by decide) rfl (Nat.le_of_ble_eq_true rfl) (fun p e s m below meth c ls C0 hw hl => t_X6_signed_0 C0 hw hl h)
end MECH
abbrev rX6_signs : Room := { frames := 2, cells := 0, slots := 0, locals := 44 }
theorem inX6_signs_X6 : ∀ w ∈ wsX60, w ∈ wsX6_signs := fun w h => List.mem_cons_of_mem _ (List.mem_append_right _ h)
def v_X6_signs_87 (x2 : Int32) (x4 : Int32) (x5 : Int32) (R_69 : Int32 → Int32 → xM → xL → Prop) (post : Int32 → xM → xL → Prop) : Nat → Int32 → Int32 → xM → xL → Prop
  | 0, _, _, _, _ => False
  | n + 1, x3, x6, A, L => ((4 : Int32) ≤ x6 → (∀ x4_2 : Int32, x4_2 = x4 + (1 : Int32) → (R_69 x3 x4_2 A L))) ∧ (¬ (4 : Int32) ≤ x6 → (v_X6_signed x6 x5 (fun (r_3 : Int32) => ((r_3 < 0 → (∀ x6_5 : Int32, x6_5 = x6 + (1 : Int32) → (v_X6_signs_87 x2 x4 x5 R_69 post n x3 x6_5 A L))) ∧ (¬ r_3 < 0 → (((5040 : Int32) < r_3 → (∀ x6_7 : Int32, x6_7 = x6 + (1 : Int32) → (v_X6_signs_87 x2 x4 x5 R_69 post n x3 x6_7 A L))) ∧ (¬ (5040 : Int32) < r_3 → (vp_in r_3 5041 ∧ ((0 ≤ (A 34 r_3.toNatClampNeg) → (∀ x6_10 : Int32, x6_10 = x6 + (1 : Int32) → (v_X6_signs_87 x2 x4 x5 R_69 post n x3 x6_10 A L))) ∧ (¬ 0 ≤ (A 34 r_3.toNatClampNeg) → (vp_in x5 5041 ∧ (∀ A_12 : xM, A_12 = xu A 34 r_3.toNatClampNeg ((A 34 x5.toNatClampNeg) + (1 : Int32)) → (vp_in x3 5041 ∧ (∀ A_14 : xM, A_14 = xu A_12 35 x3.toNatClampNeg r_3 → (∀ x3_15 : Int32, x3_15 = x3 + (1 : Int32) → (∀ x6_16 : Int32, x6_16 = x6 + (1 : Int32) → (v_X6_signs_87 x2 x4 x5 R_69 post n x3_15 x6_16 A_14 L)))))))))))))))))
def v_X6_signs_69 (x2 : Int32) (post : Int32 → xM → xL → Prop) : Nat → Int32 → Int32 → xM → xL → Prop
  | 0, _, _, _, _ => False
  | n + 1, x3, x4, A, L => (x3 ≤ x4 → (vp_in x2 5041 ∧ (post (A 34 x2.toNatClampNeg) A L))) ∧ (¬ x3 ≤ x4 → (vp_in x4 5041 ∧ (∀ x5_4 : Int32, x5_4 = (A 35 x4.toNatClampNeg) → (∃ k9 : Nat, v_X6_signs_87 x2 x4 x5_4 (fun x3 x4 A L => v_X6_signs_69 x2 post n x3 x4 A L) post k9 x3 (0 : Int32) A L))))
def v_X6_signs_30 (x1 : Int32) (x2 : Int32) (post : Int32 → xM → xL → Prop) : Nat → Int32 → xM → xL → Prop
  | 0, _, _, _ => False
  | n + 1, x3, A, L => ((5040 : Int32) < x3 → (vp_in x1 5041 ∧ (∀ A_3 : xM, A_3 = xu A 34 x1.toNatClampNeg (0 : Int32) → (vp_in (0 : Int32) 5041 ∧ (∀ A_5 : xM, A_5 = xu A_3 35 (0 : Int32).toNatClampNeg x1 → (∃ k9 : Nat, v_X6_signs_69 x2 post k9 (1 : Int32) (0 : Int32) A_5 L)))))) ∧ (¬ (5040 : Int32) < x3 → (vp_in x3 5041 ∧ (∀ A_7 : xM, A_7 = xu A 34 x3.toNatClampNeg (-1 : Int32) → (∀ x3_8 : Int32, x3_8 = x3 + (1 : Int32) → (v_X6_signs_30 x1 x2 post n x3_8 A_7 L)))))
def v_X6_signs (x1 : Int32) (x2 : Int32) (A : xM) (L : xL) (post : Int32 → xM → xL → Prop) : Prop := v_X6_in (x1).toInt64 (1 : Int64) (100 : Int64) (fun (r_1 : Int32) => ((r_1 = 0 → (post (-1002 : Int32) A L)) ∧ (¬ r_1 = 0 → (v_X6_in (x2).toInt64 (0 : Int64) (5040 : Int64) (fun (r_3 : Int32) => ((¬ r_3 = 0 → (∃ k9 : Nat, v_X6_signs_30 x1 x2 post k9 (0 : Int32) A L)) ∧ (r_3 = 0 → (post (-1002 : Int32) A L))))))))
section MECH
variable {p : Program} {l : Launch} {e : Env} {s : State} {m : MethodId} {args : Array Value} {below : List Frame} {meth : Method} {c : Code} {G : xGt}
set_option maxHeartbeats 4000000 in
set_option maxRecDepth 100000 in
theorem t_X6_signs_87 (C0 : xC p s m args meth c G cX6_signs (some .int) wsX6_signs RX6 8) {post : Int32 → xM → xL → Prop} {x2 : Int32} {x4 : Int32} {x5 : Int32} {R_69 : Int32 → Int32 → xM → xL → Prop} (hR_69 : ∀ (x3 : Int32) (x4 : Int32) (A : xM) (L : xL) (H : Heap) (locs : List Loc) (ls : Array Slot), xW G s.heap A L H locs → lv_has ls 8 [(0, .ref (xad G 23)), (2, .int x2), (3, .int x3), (4, .int x4)] → R_69 x3 x4 A L → W p l e rX6_signs s m args below meth c H locs 0 0 (MQ below (xQi G post) args s 0 0 (xAf G)) (F0 m 69 ls [])) : ∀ (n : Nat) (x3 : Int32) (x6 : Int32) (A : xM) (L : xL) (H : Heap) (locs : List Loc) (ls : Array Slot), xW G s.heap A L H locs → lv_has ls 8 [(0, .ref (xad G 23)), (2, .int x2), (3, .int x3), (4, .int x4), (5, .int x5), (6, .int x6)] → v_X6_signs_87 x2 x4 x5 R_69 post n x3 x6 A L → W p l e rX6_signs s m args below meth c H locs 0 0 (MQ below (xQi G post) args s 0 0 (xAf G)) (F0 m 87 ls []) := by
  obtain ⟨hx, hb, hr, hts, hown, hml, hlocks, hG⟩ := id C0
  intro n
  induction n with
  | zero => intro x3 x6 A L H locs ls hw hl h; exact (show False from h).elim
  | succ n ih =>
    intro x3 x6 A L H locs ls hw hl h
    unfold v_X6_signs_87 at h
    refine lv_iload hx hb dX6_signs_87 (lv_at hl 5 rfl) ?_
    refine lv_iconst (v := 4) hx hb dX6_signs_89 (by decide) ?_
    refine lv_icmp_ge (tgt := 158) hx hb dX6_signs_90 (by decide) (fun c_1 => ?_) (fun c_1 => ?_)
    · have h := h.1 c_1
      obtain ⟨x4_2, ex4_2⟩ : ∃ y : Int32, y = x4 + (1 : Int32) := ⟨_, rfl⟩
      have h := h x4_2 ex4_2
      refine lv_iinc (v := x4_2) (lv' := [(4, .int x4_2), (0, .ref (xad G 23)), (2, .int x2), (3, .int x3), (5, .int x5), (6, .int x6)]) hx hb dX6_signs_158 hl (k := 3) rfl (by rw [ex4_2]; rfl) (by decide) rfl (fun ls hl => ?_)
      refine lv_goto (tgt := 69) hx hb dX6_signs_161 (by decide) ?_
      exact hR_69 x3 x4_2 A L _ _ _ hw (lv_sub hl [1, 2, 3, 0] rfl) h
    · have h := h.2 c_1
      refine lv_iload hx hb dX6_signs_93 (lv_at hl 5 rfl) ?_
      refine lv_iload hx hb dX6_signs_95 (lv_at hl 4 rfl) ?_
      refine x_calli hG hw (va_runS (As := [.int x6, .int x5]) (rest := []) ⟨hx, hb, hml, hown, hts⟩ (c_X6_signed (l := l) (G := G) h) (va_cwS 2 hts gX6_signs_X6_signed rfl rfl rfl (by decide +kernel) ⟨Nat.le_of_ble_eq_true rfl, Nat.le_of_ble_eq_true rfl⟩) (x_preS hG hw) rfl rfl hl.1 rfl (lv_room (Nat.le_of_ble_eq_true rfl)) dX6_signs_97 ⟨Nat.le_of_ble_eq_true rfl, Nat.le_of_ble_eq_true rfl⟩) (fun r_3 A9 L9 H locs hw h => ?_)
      rw [h.2.1, h.2.2] at hw
      have h := h.1
      refine lv_istore (lv' := [(7, .int r_3), (0, .ref (xad G 23)), (2, .int x2), (3, .int x3), (4, .int x4), (5, .int x5), (6, .int x6)]) hx hb dX6_signs_100 hl (by decide) rfl (fun ls hl => ?_)
      refine lv_iload hx hb dX6_signs_102 (lv_at hl 0 rfl) ?_
      refine lv_if_lt (tgt := 152) hx hb dX6_signs_104 (by decide) (fun c_4 => ?_) (fun c_4 => ?_)
      · have h := h.1 c_4
        obtain ⟨x6_5, ex6_5⟩ : ∃ y : Int32, y = x6 + (1 : Int32) := ⟨_, rfl⟩
        have h := h x6_5 ex6_5
        refine lv_iinc (v := x6_5) (lv' := [(6, .int x6_5), (7, .int r_3), (0, .ref (xad G 23)), (2, .int x2), (3, .int x3), (4, .int x4), (5, .int x5)]) hx hb dX6_signs_152 hl (k := 6) rfl (by rw [ex6_5]; rfl) (by decide) rfl (fun ls hl => ?_)
        refine lv_goto (tgt := 87) hx hb dX6_signs_155 (by decide) ?_
        exact ih x3 x6_5 A L _ _ _ hw (lv_sub hl [2, 3, 4, 5, 6, 0] rfl) h
      · have h := h.2 c_4
        refine lv_iload hx hb dX6_signs_107 (lv_at hl 0 rfl) ?_
        refine lv_sipush (v := 5040) hx hb dX6_signs_109 (by decide) ?_
        refine lv_icmp_gt (tgt := 152) hx hb dX6_signs_112 (by decide) (fun c_6 => ?_) (fun c_6 => ?_)
        · have h := h.1 c_6
          obtain ⟨x6_7, ex6_7⟩ : ∃ y : Int32, y = x6 + (1 : Int32) := ⟨_, rfl⟩
          have h := h x6_7 ex6_7
          refine lv_iinc (v := x6_7) (lv' := [(6, .int x6_7), (7, .int r_3), (0, .ref (xad G 23)), (2, .int x2), (3, .int x3), (4, .int x4), (5, .int x5)]) hx hb dX6_signs_152 hl (k := 6) rfl (by rw [ex6_7]; rfl) (by decide) rfl (fun ls hl => ?_)
          refine lv_goto (tgt := 87) hx hb dX6_signs_155 (by decide) ?_
          exact ih x3 x6_7 A L _ _ _ hw (lv_sub hl [2, 3, 4, 5, 6, 0] rfl) h
        · have h := h.2 c_6
          refine lv_aload_n hx hb dX6_signs_115 rfl (lv_at hl 1 rfl) ?_
          refine x_get (C := RX6) (T := TX6) (N := 20) hx hb hts inX6_signs_X6 hown hG hw xO23 rfl 18 (by decide) (hts (.fieldLink RX6 49 "SixNumbersModel" "far" "[I") (List.mem_of_getElem? (i := 3) rfl)) (fun _ h9 => h9) (v := .ref (xad G 34)) rfl dX6_signs_116 ?_
          refine lv_iload hx hb dX6_signs_119 (lv_at hl 0 rfl) ?_
          have i_8 := h.1
          have h := h.2
          refine x_iald hx hb hG hw xb34 i_8 dX6_signs_121 ?_
          refine lv_if_ge (tgt := 152) hx hb dX6_signs_122 (by decide) (fun c_9 => ?_) (fun c_9 => ?_)
          · have h := h.1 c_9
            obtain ⟨x6_10, ex6_10⟩ : ∃ y : Int32, y = x6 + (1 : Int32) := ⟨_, rfl⟩
            have h := h x6_10 ex6_10
            refine lv_iinc (v := x6_10) (lv' := [(6, .int x6_10), (7, .int r_3), (0, .ref (xad G 23)), (2, .int x2), (3, .int x3), (4, .int x4), (5, .int x5)]) hx hb dX6_signs_152 hl (k := 6) rfl (by rw [ex6_10]; rfl) (by decide) rfl (fun ls hl => ?_)
            refine lv_goto (tgt := 87) hx hb dX6_signs_155 (by decide) ?_
            exact ih x3 x6_10 A L _ _ _ hw (lv_sub hl [2, 3, 4, 5, 6, 0] rfl) h
          · have h := h.2 c_9
            refine lv_aload_n hx hb dX6_signs_125 rfl (lv_at hl 1 rfl) ?_
            refine x_get (C := RX6) (T := TX6) (N := 20) hx hb hts inX6_signs_X6 hown hG hw xO23 rfl 18 (by decide) (hts (.fieldLink RX6 49 "SixNumbersModel" "far" "[I") (List.mem_of_getElem? (i := 3) rfl)) (fun _ h9 => h9) (v := .ref (xad G 34)) rfl dX6_signs_126 ?_
            refine lv_iload hx hb dX6_signs_129 (lv_at hl 0 rfl) ?_
            refine lv_aload_n hx hb dX6_signs_131 rfl (lv_at hl 1 rfl) ?_
            refine x_get (C := RX6) (T := TX6) (N := 20) hx hb hts inX6_signs_X6 hown hG hw xO23 rfl 18 (by decide) (hts (.fieldLink RX6 49 "SixNumbersModel" "far" "[I") (List.mem_of_getElem? (i := 3) rfl)) (fun _ h9 => h9) (v := .ref (xad G 34)) rfl dX6_signs_132 ?_
            refine lv_iload hx hb dX6_signs_135 (lv_at hl 5 rfl) ?_
            have i_11 := h.1
            have h := h.2
            refine x_iald hx hb hG hw xb34 i_11 dX6_signs_137 ?_
            refine lv_iconst (v := 1) hx hb dX6_signs_138 (by decide) ?_
            refine lv_iadd hx hb dX6_signs_139 ?_
            refine x_iast hx hb hG hw xb34 i_8 dX6_signs_140 (fun A_12 H locs eA_12 hw => ?_)
            have h := h A_12 eA_12
            refine lv_aload_n hx hb dX6_signs_141 rfl (lv_at hl 1 rfl) ?_
            refine x_get (C := RX6) (T := TX6) (N := 20) hx hb hts inX6_signs_X6 hown hG hw xO23 rfl 19 (by decide) (hts (.fieldLink RX6 52 "SixNumbersModel" "line" "[I") (List.mem_of_getElem? (i := 4) rfl)) (fun _ h9 => h9) (v := .ref (xad G 35)) rfl dX6_signs_142 ?_
            refine lv_iload_n hx hb dX6_signs_145 rfl (lv_at hl 3 rfl) ?_
            refine lv_iload hx hb dX6_signs_146 (lv_at hl 0 rfl) ?_
            have i_13 := h.1
            have h := h.2
            refine x_iast hx hb hG hw xb35 i_13 dX6_signs_148 (fun A_14 H locs eA_14 hw => ?_)
            have h := h A_14 eA_14
            obtain ⟨x3_15, ex3_15⟩ : ∃ y : Int32, y = x3 + (1 : Int32) := ⟨_, rfl⟩
            have h := h x3_15 ex3_15
            refine lv_iinc (v := x3_15) (lv' := [(3, .int x3_15), (7, .int r_3), (0, .ref (xad G 23)), (2, .int x2), (4, .int x4), (5, .int x5), (6, .int x6)]) hx hb dX6_signs_149 hl (k := 3) rfl (by rw [ex3_15]; rfl) (by decide) rfl (fun ls hl => ?_)
            obtain ⟨x6_16, ex6_16⟩ : ∃ y : Int32, y = x6 + (1 : Int32) := ⟨_, rfl⟩
            have h := h x6_16 ex6_16
            refine lv_iinc (v := x6_16) (lv' := [(6, .int x6_16), (3, .int x3_15), (7, .int r_3), (0, .ref (xad G 23)), (2, .int x2), (4, .int x4), (5, .int x5)]) hx hb dX6_signs_152 hl (k := 6) rfl (by rw [ex6_16]; rfl) (by decide) rfl (fun ls hl => ?_)
            refine lv_goto (tgt := 87) hx hb dX6_signs_155 (by decide) ?_
            exact ih x3_15 x6_16 A_14 L _ _ _ hw (lv_sub hl [3, 4, 1, 5, 6, 0] rfl) h
set_option maxHeartbeats 4000000 in
set_option maxRecDepth 100000 in
theorem t_X6_signs_69 (C0 : xC p s m args meth c G cX6_signs (some .int) wsX6_signs RX6 8) {post : Int32 → xM → xL → Prop} {x2 : Int32} : ∀ (n : Nat) (x3 : Int32) (x4 : Int32) (A : xM) (L : xL) (H : Heap) (locs : List Loc) (ls : Array Slot), xW G s.heap A L H locs → lv_has ls 8 [(0, .ref (xad G 23)), (2, .int x2), (3, .int x3), (4, .int x4)] → v_X6_signs_69 x2 post n x3 x4 A L → W p l e rX6_signs s m args below meth c H locs 0 0 (MQ below (xQi G post) args s 0 0 (xAf G)) (F0 m 69 ls []) := by
  obtain ⟨hx, hb, hr, hts, hown, hml, hlocks, hG⟩ := id C0
  intro n
  induction n with
  | zero => intro x3 x4 A L H locs ls hw hl h; exact (show False from h).elim
  | succ n ih =>
    intro x3 x4 A L H locs ls hw hl h
    unfold v_X6_signs_69 at h
    refine lv_iload hx hb dX6_signs_69 (lv_at hl 3 rfl) ?_
    refine lv_iload_n hx hb dX6_signs_71 rfl (lv_at hl 2 rfl) ?_
    refine lv_icmp_ge (tgt := 164) hx hb dX6_signs_72 (by decide) (fun c_1 => ?_) (fun c_1 => ?_)
    · have h := h.1 c_1
      refine lv_aload_n hx hb dX6_signs_164 rfl (lv_at hl 0 rfl) ?_
      refine x_get (C := RX6) (T := TX6) (N := 20) hx hb hts inX6_signs_X6 hown hG hw xO23 rfl 18 (by decide) (hts (.fieldLink RX6 49 "SixNumbersModel" "far" "[I") (List.mem_of_getElem? (i := 3) rfl)) (fun _ h9 => h9) (v := .ref (xad G 34)) rfl dX6_signs_165 ?_
      refine lv_iload_n hx hb dX6_signs_168 rfl (lv_at hl 1 rfl) ?_
      have i_2 := h.1
      have h := h.2
      refine x_iald hx hb hG hw xb34 i_2 dX6_signs_169 ?_
      exact x_iret hx hb hr hlocks hG hw h dX6_signs_170
    · have h := h.2 c_1
      refine lv_aload_n hx hb dX6_signs_75 rfl (lv_at hl 0 rfl) ?_
      refine x_get (C := RX6) (T := TX6) (N := 20) hx hb hts inX6_signs_X6 hown hG hw xO23 rfl 19 (by decide) (hts (.fieldLink RX6 52 "SixNumbersModel" "line" "[I") (List.mem_of_getElem? (i := 4) rfl)) (fun _ h9 => h9) (v := .ref (xad G 35)) rfl dX6_signs_76 ?_
      refine lv_iload hx hb dX6_signs_79 (lv_at hl 3 rfl) ?_
      have i_3 := h.1
      have h := h.2
      refine x_iald hx hb hG hw xb35 i_3 dX6_signs_81 ?_
      refine lv_topi (fun x5_4 ex5_4 => ?_)
      have h := h x5_4 ex5_4
      refine lv_istore (lv' := [(5, .int x5_4), (0, .ref (xad G 23)), (2, .int x2), (3, .int x3), (4, .int x4)]) hx hb dX6_signs_82 hl (by decide) rfl (fun ls hl => ?_)
      refine lv_iconst (v := 0) hx hb dX6_signs_84 (by decide) ?_
      refine lv_istore (lv' := [(6, .int (0 : Int32)), (5, .int x5_4), (0, .ref (xad G 23)), (2, .int x2), (3, .int x3), (4, .int x4)]) hx hb dX6_signs_85 hl (by decide) rfl (fun ls hl => ?_)
      obtain ⟨n9, h⟩ := h
      exact t_X6_signs_87 C0 ih n9 x3 (0 : Int32) A L _ _ _ hw (lv_sub hl [2, 3, 4, 5, 1, 0] rfl) h
set_option maxHeartbeats 4000000 in
set_option maxRecDepth 100000 in
theorem t_X6_signs_30 (C0 : xC p s m args meth c G cX6_signs (some .int) wsX6_signs RX6 8) {post : Int32 → xM → xL → Prop} {x1 : Int32} {x2 : Int32} : ∀ (n : Nat) (x3 : Int32) (A : xM) (L : xL) (H : Heap) (locs : List Loc) (ls : Array Slot), xW G s.heap A L H locs → lv_has ls 8 [(0, .ref (xad G 23)), (1, .int x1), (2, .int x2), (3, .int x3)] → v_X6_signs_30 x1 x2 post n x3 A L → W p l e rX6_signs s m args below meth c H locs 0 0 (MQ below (xQi G post) args s 0 0 (xAf G)) (F0 m 30 ls []) := by
  obtain ⟨hx, hb, hr, hts, hown, hml, hlocks, hG⟩ := id C0
  intro n
  induction n with
  | zero => intro x3 A L H locs ls hw hl h; exact (show False from h).elim
  | succ n ih =>
    intro x3 A L H locs ls hw hl h
    unfold v_X6_signs_30 at h
    refine lv_iload_n hx hb dX6_signs_30 rfl (lv_at hl 3 rfl) ?_
    refine lv_sipush (v := 5040) hx hb dX6_signs_31 (by decide) ?_
    refine lv_icmp_gt (tgt := 50) hx hb dX6_signs_34 (by decide) (fun c_1 => ?_) (fun c_1 => ?_)
    · have h := h.1 c_1
      refine lv_aload_n hx hb dX6_signs_50 rfl (lv_at hl 0 rfl) ?_
      refine x_get (C := RX6) (T := TX6) (N := 20) hx hb hts inX6_signs_X6 hown hG hw xO23 rfl 18 (by decide) (hts (.fieldLink RX6 49 "SixNumbersModel" "far" "[I") (List.mem_of_getElem? (i := 3) rfl)) (fun _ h9 => h9) (v := .ref (xad G 34)) rfl dX6_signs_51 ?_
      refine lv_iload_n hx hb dX6_signs_54 rfl (lv_at hl 1 rfl) ?_
      refine lv_iconst (v := 0) hx hb dX6_signs_55 (by decide) ?_
      have i_2 := h.1
      have h := h.2
      refine x_iast hx hb hG hw xb34 i_2 dX6_signs_56 (fun A_3 H locs eA_3 hw => ?_)
      have h := h A_3 eA_3
      refine lv_aload_n hx hb dX6_signs_57 rfl (lv_at hl 0 rfl) ?_
      refine x_get (C := RX6) (T := TX6) (N := 20) hx hb hts inX6_signs_X6 hown hG hw xO23 rfl 19 (by decide) (hts (.fieldLink RX6 52 "SixNumbersModel" "line" "[I") (List.mem_of_getElem? (i := 4) rfl)) (fun _ h9 => h9) (v := .ref (xad G 35)) rfl dX6_signs_58 ?_
      refine lv_iconst (v := 0) hx hb dX6_signs_61 (by decide) ?_
      refine lv_iload_n hx hb dX6_signs_62 rfl (lv_at hl 1 rfl) ?_
      have i_4 := h.1
      have h := h.2
      refine x_iast hx hb hG hw xb35 i_4 dX6_signs_63 (fun A_5 H locs eA_5 hw => ?_)
      have h := h A_5 eA_5
      refine lv_iconst (v := 1) hx hb dX6_signs_64 (by decide) ?_
      refine lv_istore_n (lv' := [(3, .int (1 : Int32)), (0, .ref (xad G 23)), (1, .int x1), (2, .int x2)]) hx hb dX6_signs_65 rfl hl (by decide) rfl (fun ls hl => ?_)
      refine lv_iconst (v := 0) hx hb dX6_signs_66 (by decide) ?_
      refine lv_istore (lv' := [(4, .int (0 : Int32)), (3, .int (1 : Int32)), (0, .ref (xad G 23)), (1, .int x1), (2, .int x2)]) hx hb dX6_signs_67 hl (by decide) rfl (fun ls hl => ?_)
      obtain ⟨n9, h⟩ := h
      exact t_X6_signs_69 C0 n9 (1 : Int32) (0 : Int32) A_5 L _ _ _ hw (lv_sub hl [2, 4, 1, 0] rfl) h
    · have h := h.2 c_1
      refine lv_aload_n hx hb dX6_signs_37 rfl (lv_at hl 0 rfl) ?_
      refine x_get (C := RX6) (T := TX6) (N := 20) hx hb hts inX6_signs_X6 hown hG hw xO23 rfl 18 (by decide) (hts (.fieldLink RX6 49 "SixNumbersModel" "far" "[I") (List.mem_of_getElem? (i := 3) rfl)) (fun _ h9 => h9) (v := .ref (xad G 34)) rfl dX6_signs_38 ?_
      refine lv_iload_n hx hb dX6_signs_41 rfl (lv_at hl 3 rfl) ?_
      refine lv_iconst (v := (-1)) hx hb dX6_signs_42 (by decide) ?_
      have i_6 := h.1
      have h := h.2
      refine x_iast hx hb hG hw xb34 i_6 dX6_signs_43 (fun A_7 H locs eA_7 hw => ?_)
      have h := h A_7 eA_7
      obtain ⟨x3_8, ex3_8⟩ : ∃ y : Int32, y = x3 + (1 : Int32) := ⟨_, rfl⟩
      have h := h x3_8 ex3_8
      refine lv_iinc (v := x3_8) (lv' := [(3, .int x3_8), (0, .ref (xad G 23)), (1, .int x1), (2, .int x2)]) hx hb dX6_signs_44 hl (k := 3) rfl (by rw [ex3_8]; rfl) (by decide) rfl (fun ls hl => ?_)
      refine lv_goto (tgt := 30) hx hb dX6_signs_47 (by decide) ?_
      exact ih x3_8 A_7 L _ _ _ hw (lv_sub hl [1, 2, 3, 0] rfl) h
set_option maxHeartbeats 4000000 in
set_option maxRecDepth 100000 in
theorem t_X6_signs_0 (C0 : xC p s m args meth c G cX6_signs (some .int) wsX6_signs RX6 8) {post : Int32 → xM → xL → Prop} {x1 : Int32} {x2 : Int32} {A : xM} {L : xL} {H : Heap} {locs : List Loc} {ls : Array Slot} (hw : xW G s.heap A L H locs) (hl : lv_has ls 8 [(0, .ref (xad G 23)), (1, .int x1), (2, .int x2)]) (h : v_X6_signs x1 x2 A L post) : W p l e rX6_signs s m args below meth c H locs 0 0 (MQ below (xQi G post) args s 0 0 (xAf G)) (F0 m 0 ls []) := by
  obtain ⟨hx, hb, hr, hts, hown, hml, hlocks, hG⟩ := id C0
  unfold v_X6_signs at h
  refine lv_iload_n hx hb dX6_signs_0 rfl (lv_at hl 1 rfl) ?_
  refine lv_i2l hx hb dX6_signs_1 rfl ?_
  refine lv_lconst (v := 1) hx hb dX6_signs_2 (by decide) ?_
  refine lv_ldc2 (v := (100 : Int64)) hx hb hown (hts _ (List.mem_of_getElem? (i := 1) rfl)) dX6_signs_3 ?_
  refine x_calli hG hw (va_runS (As := [.long (x1).toInt64, .long (1 : Int64), .long (100 : Int64)]) (rest := []) ⟨hx, hb, hml, hown, hts⟩ (c_X6_in (l := l) (G := G) h) (va_cwS 3 hts gX6_signs_X6_in rfl rfl rfl (by decide +kernel) ⟨Nat.le_of_ble_eq_true rfl, Nat.le_of_ble_eq_true rfl⟩) (x_preS hG hw) rfl rfl hl.1 rfl (lv_room (Nat.le_of_ble_eq_true rfl)) dX6_signs_6 ⟨Nat.le_of_ble_eq_true rfl, Nat.le_of_ble_eq_true rfl⟩) (fun r_1 A9 L9 H locs hw h => ?_)
  rw [h.2.1, h.2.2] at hw
  have h := h.1
  refine lv_if_eq (tgt := 24) hx hb dX6_signs_9 (by decide) (fun c_2 => ?_) (fun c_2 => ?_)
  · have h := h.1 c_2
    refine lv_sipush (v := (-1002)) hx hb dX6_signs_24 (by decide) ?_
    exact x_iret hx hb hr hlocks hG hw h dX6_signs_27
  · have h := h.2 c_2
    refine lv_iload_n hx hb dX6_signs_12 rfl (lv_at hl 2 rfl) ?_
    refine lv_i2l hx hb dX6_signs_13 rfl ?_
    refine lv_lconst (v := 0) hx hb dX6_signs_14 (by decide) ?_
    refine lv_ldc2 (v := (5040 : Int64)) hx hb hown (hts _ (List.mem_of_getElem? (i := 2) rfl)) dX6_signs_15 ?_
    refine x_calli hG hw (va_runS (As := [.long (x2).toInt64, .long (0 : Int64), .long (5040 : Int64)]) (rest := []) ⟨hx, hb, hml, hown, hts⟩ (c_X6_in (l := l) (G := G) h) (va_cwS 3 hts gX6_signs_X6_in rfl rfl rfl (by decide +kernel) ⟨Nat.le_of_ble_eq_true rfl, Nat.le_of_ble_eq_true rfl⟩) (x_preS hG hw) rfl rfl hl.1 rfl (lv_room (Nat.le_of_ble_eq_true rfl)) dX6_signs_18 ⟨Nat.le_of_ble_eq_true rfl, Nat.le_of_ble_eq_true rfl⟩) (fun r_3 A9 L9 H locs hw h => ?_)
    rw [h.2.1, h.2.2] at hw
    have h := h.1
    refine lv_if_ne (tgt := 28) hx hb dX6_signs_21 (by decide) (fun c_4 => ?_) (fun c_4 => ?_)
    · have h := h.1 c_4
      refine lv_iconst (v := 0) hx hb dX6_signs_28 (by decide) ?_
      refine lv_istore_n (lv' := [(3, .int (0 : Int32)), (0, .ref (xad G 23)), (1, .int x1), (2, .int x2)]) hx hb dX6_signs_29 rfl hl (by decide) rfl (fun ls hl => ?_)
      obtain ⟨n9, h⟩ := h
      exact t_X6_signs_30 C0 n9 (0 : Int32) A L _ _ _ hw (lv_sub hl [1, 2, 3, 0] rfl) h
    · have h := h.2 c_4
      refine lv_sipush (v := (-1002)) hx hb dX6_signs_24 (by decide) ?_
      exact x_iret hx hb hr hlocks hG hw h dX6_signs_27
theorem c_X6_signs {l : Launch} {G : xGt} {x1 : Int32} {x2 : Int32} {A : xM} {L : xL} {post : Int32 → xM → xL → Prop} (h : v_X6_signs x1 x2 A L post) : Met l yX6_signs wsX6_signs rX6_signs (va_Pc [.ref (xad G 23), .int x1, .int x2] (xPre G A L)) (xQi G post) 0 0 (xAf G) :=
  x_met RX6 rfl (by decide) rfl (Nat.le_of_ble_eq_true rfl) (fun p e s m below meth c ls C0 hw hl => t_X6_signs_0 C0 hw hl h)
end MECH
