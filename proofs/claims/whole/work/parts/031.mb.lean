abbrev rX1_place : Room := { frames := 1, cells := 0, slots := 0, locals := 24 }
theorem inX1_place_X1 : ∀ w ∈ wsX10, w ∈ wsX1_place := fun w h => List.mem_cons_of_mem _ (List.mem_append_right _ h)
def v_X1_place_41 (q : Nat) (x1 : Int32) (x2 : Int32) (A : xM) (L : xL) (post : xM → xL → Prop) : Prop := ∀ A_1 : xM, A_1 = xu A (2 + 6 * q) 6 (if (A (2 + 6 * q) 6) < (x1 + (1 : Int32)) then (x1 + (1 : Int32)) else (A (2 + 6 * q) 6)) → (vp_in x1 (6 - 2 * q) ∧ (∀ A_3 : xM, A_3 = xu A_1 (3 + 6 * q) x1.toNatClampNeg x2 → (∀ A_4 : xM, A_4 = xu A_3 (2 + 6 * q) 7 ((A_3 (2 + 6 * q) 7) ||| ((1 : Int32) <<< (x1 &&& 31))) → (post A_4 L))))
def v_X1_place (q : Nat) (x1 : Int32) (x2 : Int32) (A : xM) (L : xL) (post : xM → xL → Prop) : Prop := (x1 < 0 → (post A L)) ∧ (¬ x1 < 0 → (((A (2 + 6 * q) 6) < x1 → (post A L)) ∧ (¬ (A (2 + 6 * q) 6) < x1 → ((x1 < (nI (6 - 2 * q)) → (((A (2 + 6 * q) 6) ≤ x1 → (v_X1_place_41 q x1 x2 A L post)) ∧ (¬ (A (2 + 6 * q) 6) ≤ x1 → (vp_in x1 (6 - 2 * q) ∧ ((¬ (A (3 + 6 * q) x1.toNatClampNeg) = x2 → (v_X1_place_41 q x1 x2 A L post)) ∧ ((A (3 + 6 * q) x1.toNatClampNeg) = x2 → (post A L))))))) ∧ (¬ x1 < (nI (6 - 2 * q)) → (post A L))))))
section MECH
variable {p : Program} {l : Launch} {e : Env} {s : State} {m : MethodId} {args : Array Value} {below : List Frame} {meth : Method} {c : Code} {G : xGt}
set_option maxHeartbeats 4000000 in
set_option maxRecDepth 100000 in
theorem t_X1_place_41 (C0 : xC p s m args meth c G cX1_place none wsX1_place RX1 3) {q : Nat} (hq : q < 2) {post : xM → xL → Prop} {x1 : Int32} {x2 : Int32} {A : xM} {L : xL} {H : Heap} {locs : List Loc} {ls : Array Slot} (hw : xW G s.heap A L H locs) (hl : lv_has ls 3 [(0, .ref (xad G (2 + 6 * q))), (1, .int x1), (2, .int x2)]) (h : v_X1_place_41 q x1 x2 A L post) : W p l e rX1_place s m args below meth c H locs 0 0 (MQ below (xQv G post) args s 0 0 (xAf G)) (F0 m 41 ls []) := by
  obtain ⟨hx, hb, hr, hts, hown, hml, hlocks, hG⟩ := id C0
  unfold v_X1_place_41 at h
  refine lv_aload_n hx hb dX1_place_41 rfl (lv_at hl 0 rfl) ?_
  refine lv_aload_n hx hb dX1_place_42 rfl (lv_at hl 0 rfl) ?_
  refine x_get (C := RX1) (T := TX1) (N := 8) hx hb hts inX1_place_X1 hown hG hw (xOh hq) rfl 6 (by decide) (hts (.fieldLink RX1 9 "SixNumbers$Heap" "size" "I") (List.mem_of_getElem? (i := 1) rfl)) (fun _ h9 => h9) (v := .int (A (2 + 6 * q) 6)) (xf_v6 hq) dX1_place_43 ?_
  refine lv_iload_n hx hb dX1_place_46 rfl (lv_at hl 1 rfl) ?_
  refine lv_iconst (v := 1) hx hb dX1_place_47 (by decide) ?_
  refine lv_iadd hx hb dX1_place_48 ?_
  refine va_mmax hx hb (hml.trans hl.1.symm) hown (hts _ (List.mem_of_getElem? (i := 3) rfl)) (hts _ (List.mem_of_getElem? (i := 4) rfl)) (hts _ (List.mem_of_getElem? (i := 5) rfl)) (hts _ (List.mem_of_getElem? (i := 6) rfl)) (Nat.le_of_ble_eq_true rfl) (Nat.le_of_ble_eq_true rfl) (Nat.le_of_ble_eq_true rfl) (Nat.le_of_ble_eq_true rfl) dX1_place_49 ?_
  refine x_put (C := RX1) (T := TX1) (N := 8) hx hb hts inX1_place_X1 tyX1 tyX1_ok nmX1 hown hG hw (xOh hq) rfl 6 (by decide) (hts (.fieldLink RX1 9 "SixNumbers$Heap" "size" "I") (List.mem_of_getElem? (i := 1) rfl)) (fun _ h9 => h9) rfl (ty := .int) (by decide +kernel) rfl rfl (xf_l hq 6 (by decide)) (xf_s6 hq _ _ _) dX1_place_52 (fun A_1 H locs eA_1 hw => ?_)
  have h := h A_1 eA_1
  refine lv_aload_n hx hb dX1_place_55 rfl (lv_at hl 0 rfl) ?_
  refine x_get (C := RX1) (T := TX1) (N := 8) hx hb hts inX1_place_X1 hown hG hw (xOh hq) rfl 1 (by decide) (hts (.fieldLink RX1 22 "SixNumbers$Heap" "items" "[I") (List.mem_of_getElem? (i := 2) rfl)) (fun _ h9 => h9) (v := .ref (xad G (3 + 6 * q))) (xf_h1 hq) dX1_place_56 ?_
  refine lv_iload_n hx hb dX1_place_59 rfl (lv_at hl 1 rfl) ?_
  refine lv_iload_n hx hb dX1_place_60 rfl (lv_at hl 2 rfl) ?_
  have i_2 := h.1
  have h := h.2
  refine x_iast hx hb hG hw (xhI hq) i_2 dX1_place_61 (fun A_3 H locs eA_3 hw => ?_)
  have h := h A_3 eA_3
  refine lv_aload_n hx hb dX1_place_62 rfl (lv_at hl 0 rfl) ?_
  refine lv_dup hx hb dX1_place_63 rfl ?_
  refine x_get (C := RX1) (T := TX1) (N := 8) hx hb hts inX1_place_X1 hown hG hw (xOh hq) rfl 7 (by decide) (hts (.fieldLink RX1 15 "SixNumbers$Heap" "changed" "I") (List.mem_of_getElem? (i := 7) rfl)) (fun _ h9 => h9) (v := .int (A_3 (2 + 6 * q) 7)) (xf_v7 hq) dX1_place_64 ?_
  refine lv_iconst (v := 1) hx hb dX1_place_67 (by decide) ?_
  refine lv_iload_n hx hb dX1_place_68 rfl (lv_at hl 1 rfl) ?_
  refine lv_ishl hx hb dX1_place_69 ?_
  refine lv_ior hx hb dX1_place_70 ?_
  refine x_put (C := RX1) (T := TX1) (N := 8) hx hb hts inX1_place_X1 tyX1 tyX1_ok nmX1 hown hG hw (xOh hq) rfl 7 (by decide) (hts (.fieldLink RX1 15 "SixNumbers$Heap" "changed" "I") (List.mem_of_getElem? (i := 7) rfl)) (fun _ h9 => h9) rfl (ty := .int) (by decide +kernel) rfl rfl (xf_l hq 7 (by decide)) (xf_s7 hq _ _ _) dX1_place_71 (fun A_4 H locs eA_4 hw => ?_)
  have h := h A_4 eA_4
  exact x_vret hx hb hr hlocks hG hw h dX1_place_74
set_option maxHeartbeats 4000000 in
set_option maxRecDepth 100000 in
theorem t_X1_place_0 (C0 : xC p s m args meth c G cX1_place none wsX1_place RX1 3) {q : Nat} (hq : q < 2) {post : xM → xL → Prop} {x1 : Int32} {x2 : Int32} {A : xM} {L : xL} {H : Heap} {locs : List Loc} {ls : Array Slot} (hw : xW G s.heap A L H locs) (hl : lv_has ls 3 [(0, .ref (xad G (2 + 6 * q))), (1, .int x1), (2, .int x2)]) (h : v_X1_place q x1 x2 A L post) : W p l e rX1_place s m args below meth c H locs 0 0 (MQ below (xQv G post) args s 0 0 (xAf G)) (F0 m 0 ls []) := by
  obtain ⟨hx, hb, hr, hts, hown, hml, hlocks, hG⟩ := id C0
  unfold v_X1_place at h
  refine lv_iload_n hx hb dX1_place_0 rfl (lv_at hl 1 rfl) ?_
  refine lv_if_lt (tgt := 21) hx hb dX1_place_1 (by decide) (fun c_1 => ?_) (fun c_1 => ?_)
  · have h := h.1 c_1
    exact x_vret hx hb hr hlocks hG hw h dX1_place_21
  · have h := h.2 c_1
    refine lv_iload_n hx hb dX1_place_4 rfl (lv_at hl 1 rfl) ?_
    refine lv_aload_n hx hb dX1_place_5 rfl (lv_at hl 0 rfl) ?_
    refine x_get (C := RX1) (T := TX1) (N := 8) hx hb hts inX1_place_X1 hown hG hw (xOh hq) rfl 6 (by decide) (hts (.fieldLink RX1 9 "SixNumbers$Heap" "size" "I") (List.mem_of_getElem? (i := 1) rfl)) (fun _ h9 => h9) (v := .int (A (2 + 6 * q) 6)) (xf_v6 hq) dX1_place_6 ?_
    refine lv_icmp_gt (tgt := 21) hx hb dX1_place_9 (by decide) (fun c_2 => ?_) (fun c_2 => ?_)
    · have h := h.1 c_2
      exact x_vret hx hb hr hlocks hG hw h dX1_place_21
    · have h := h.2 c_2
      refine lv_iload_n hx hb dX1_place_12 rfl (lv_at hl 1 rfl) ?_
      refine lv_aload_n hx hb dX1_place_13 rfl (lv_at hl 0 rfl) ?_
      refine x_get (C := RX1) (T := TX1) (N := 8) hx hb hts inX1_place_X1 hown hG hw (xOh hq) rfl 1 (by decide) (hts (.fieldLink RX1 22 "SixNumbers$Heap" "items" "[I") (List.mem_of_getElem? (i := 2) rfl)) (fun _ h9 => h9) (v := .ref (xad G (3 + 6 * q))) (xf_h1 hq) dX1_place_14 ?_
      refine x_alenI hx hb hG hw (xhI hq) dX1_place_17 ?_
      refine lv_icmp_lt (tgt := 22) hx hb dX1_place_18 (by decide) (fun c_3 => ?_) (fun c_3 => ?_)
      · have h := h.1 c_3
        refine lv_iload_n hx hb dX1_place_22 rfl (lv_at hl 1 rfl) ?_
        refine lv_aload_n hx hb dX1_place_23 rfl (lv_at hl 0 rfl) ?_
        refine x_get (C := RX1) (T := TX1) (N := 8) hx hb hts inX1_place_X1 hown hG hw (xOh hq) rfl 6 (by decide) (hts (.fieldLink RX1 9 "SixNumbers$Heap" "size" "I") (List.mem_of_getElem? (i := 1) rfl)) (fun _ h9 => h9) (v := .int (A (2 + 6 * q) 6)) (xf_v6 hq) dX1_place_24 ?_
        refine lv_icmp_ge (tgt := 41) hx hb dX1_place_27 (by decide) (fun c_4 => ?_) (fun c_4 => ?_)
        · have h := h.1 c_4
          exact t_X1_place_41 C0 hq hw (lv_sub hl [0, 1, 2] rfl) h
        · have h := h.2 c_4
          refine lv_aload_n hx hb dX1_place_30 rfl (lv_at hl 0 rfl) ?_
          refine x_get (C := RX1) (T := TX1) (N := 8) hx hb hts inX1_place_X1 hown hG hw (xOh hq) rfl 1 (by decide) (hts (.fieldLink RX1 22 "SixNumbers$Heap" "items" "[I") (List.mem_of_getElem? (i := 2) rfl)) (fun _ h9 => h9) (v := .ref (xad G (3 + 6 * q))) (xf_h1 hq) dX1_place_31 ?_
          refine lv_iload_n hx hb dX1_place_34 rfl (lv_at hl 1 rfl) ?_
          have i_5 := h.1
          have h := h.2
          refine x_iald hx hb hG hw (xhI hq) i_5 dX1_place_35 ?_
          refine lv_iload_n hx hb dX1_place_36 rfl (lv_at hl 2 rfl) ?_
          refine lv_icmp_ne (tgt := 41) hx hb dX1_place_37 (by decide) (fun c_6 => ?_) (fun c_6 => ?_)
          · have h := h.1 c_6
            exact t_X1_place_41 C0 hq hw (lv_sub hl [0, 1, 2] rfl) h
          · have h := h.2 c_6
            exact x_vret hx hb hr hlocks hG hw h dX1_place_40
      · have h := h.2 c_3
        exact x_vret hx hb hr hlocks hG hw h dX1_place_21
theorem c_X1_place {l : Launch} {G : xGt} {q : Nat} (hq : q < 2) {x1 : Int32} {x2 : Int32} {A : xM} {L : xL} {post : xM → xL → Prop} (h : v_X1_place q x1 x2 A L post) : Met l yX1_place wsX1_place rX1_place (va_Pc [.ref (xad G (2 + 6 * q)), .int x1, .int x2] (xPre G A L)) (xQv G post) 0 0 (xAf G) :=
  x_met RX1 rfl (by decide) rfl (Nat.le_of_ble_eq_true rfl) (fun p e s m below meth c ls C0 hw hl => t_X1_place_0 C0 hq hw hl h)
end MECH
abbrev rX1_shorten : Room := { frames := 1, cells := 0, slots := 0, locals := 24 }
theorem inX1_shorten_X1 : ∀ w ∈ wsX10, w ∈ wsX1_shorten := fun w h => List.mem_cons_of_mem _ (List.mem_append_right _ h)
def v_X1_shorten_2 (q : Nat) (x1 : Int32) (post : xM → xL → Prop) : Nat → Int32 → xM → xL → Prop
  | 0, _, _, _ => False
  | n + 1, x2, A, L => ((A (2 + 6 * q) 6) ≤ x2 → (∀ A_2 : xM, A_2 = xu A (2 + 6 * q) 6 (if x1 < (A (2 + 6 * q) 6) then x1 else (A (2 + 6 * q) 6)) → (post A_2 L))) ∧ (¬ (A (2 + 6 * q) 6) ≤ x2 → (∀ A_3 : xM, A_3 = xu A (2 + 6 * q) 7 ((A (2 + 6 * q) 7) ||| ((1 : Int32) <<< (x2 &&& 31))) → (∀ x2_4 : Int32, x2_4 = x2 + (1 : Int32) → (v_X1_shorten_2 q x1 post n x2_4 A_3 L))))
def v_X1_shorten (q : Nat) (x1 : Int32) (A : xM) (L : xL) (post : xM → xL → Prop) : Prop := ∃ k9 : Nat, v_X1_shorten_2 q x1 post k9 x1 A L
section MECH
variable {p : Program} {l : Launch} {e : Env} {s : State} {m : MethodId} {args : Array Value} {below : List Frame} {meth : Method} {c : Code} {G : xGt}
set_option maxHeartbeats 4000000 in
set_option maxRecDepth 100000 in
theorem t_X1_shorten_2 (C0 : xC p s m args meth c G cX1_shorten none wsX1_shorten RX1 3) {q : Nat} (hq : q < 2) {post : xM → xL → Prop} {x1 : Int32} : ∀ (n : Nat) (x2 : Int32) (A : xM) (L : xL) (H : Heap) (locs : List Loc) (ls : Array Slot), xW G s.heap A L H locs → lv_has ls 3 [(0, .ref (xad G (2 + 6 * q))), (1, .int x1), (2, .int x2)] → v_X1_shorten_2 q x1 post n x2 A L → W p l e rX1_shorten s m args below meth c H locs 0 0 (MQ below (xQv G post) args s 0 0 (xAf G)) (F0 m 2 ls []) := by
  obtain ⟨hx, hb, hr, hts, hown, hml, hlocks, hG⟩ := id C0
  intro n
  induction n with
  | zero => intro x2 A L H locs ls hw hl h; exact (show False from h).elim
  | succ n ih =>
    intro x2 A L H locs ls hw hl h
    unfold v_X1_shorten_2 at h
    refine lv_iload_n hx hb dX1_shorten_2 rfl (lv_at hl 2 rfl) ?_
    refine lv_aload_n hx hb dX1_shorten_3 rfl (lv_at hl 0 rfl) ?_
    refine x_get (C := RX1) (T := TX1) (N := 8) hx hb hts inX1_shorten_X1 hown hG hw (xOh hq) rfl 6 (by decide) (hts (.fieldLink RX1 9 "SixNumbers$Heap" "size" "I") (List.mem_of_getElem? (i := 1) rfl)) (fun _ h9 => h9) (v := .int (A (2 + 6 * q) 6)) (xf_v6 hq) dX1_shorten_4 ?_
    refine lv_icmp_ge (tgt := 28) hx hb dX1_shorten_7 (by decide) (fun c_1 => ?_) (fun c_1 => ?_)
    · have h := h.1 c_1
      refine lv_aload_n hx hb dX1_shorten_28 rfl (lv_at hl 0 rfl) ?_
      refine lv_aload_n hx hb dX1_shorten_29 rfl (lv_at hl 0 rfl) ?_
      refine x_get (C := RX1) (T := TX1) (N := 8) hx hb hts inX1_shorten_X1 hown hG hw (xOh hq) rfl 6 (by decide) (hts (.fieldLink RX1 9 "SixNumbers$Heap" "size" "I") (List.mem_of_getElem? (i := 1) rfl)) (fun _ h9 => h9) (v := .int (A (2 + 6 * q) 6)) (xf_v6 hq) dX1_shorten_30 ?_
      refine lv_iload_n hx hb dX1_shorten_33 rfl (lv_at hl 1 rfl) ?_
      refine va_mmin hx hb (hml.trans hl.1.symm) hown (hts _ (List.mem_of_getElem? (i := 3) rfl)) (hts _ (List.mem_of_getElem? (i := 4) rfl)) (hts _ (List.mem_of_getElem? (i := 5) rfl)) (hts _ (List.mem_of_getElem? (i := 6) rfl)) (Nat.le_of_ble_eq_true rfl) (Nat.le_of_ble_eq_true rfl) (Nat.le_of_ble_eq_true rfl) (Nat.le_of_ble_eq_true rfl) dX1_shorten_34 ?_
      refine x_put (C := RX1) (T := TX1) (N := 8) hx hb hts inX1_shorten_X1 tyX1 tyX1_ok nmX1 hown hG hw (xOh hq) rfl 6 (by decide) (hts (.fieldLink RX1 9 "SixNumbers$Heap" "size" "I") (List.mem_of_getElem? (i := 1) rfl)) (fun _ h9 => h9) rfl (ty := .int) (by decide +kernel) rfl rfl (xf_l hq 6 (by decide)) (xf_s6 hq _ _ _) dX1_shorten_37 (fun A_2 H locs eA_2 hw => ?_)
      have h := h A_2 eA_2
      exact x_vret hx hb hr hlocks hG hw h dX1_shorten_40
    · have h := h.2 c_1
      refine lv_aload_n hx hb dX1_shorten_10 rfl (lv_at hl 0 rfl) ?_
      refine lv_dup hx hb dX1_shorten_11 rfl ?_
      refine x_get (C := RX1) (T := TX1) (N := 8) hx hb hts inX1_shorten_X1 hown hG hw (xOh hq) rfl 7 (by decide) (hts (.fieldLink RX1 15 "SixNumbers$Heap" "changed" "I") (List.mem_of_getElem? (i := 2) rfl)) (fun _ h9 => h9) (v := .int (A (2 + 6 * q) 7)) (xf_v7 hq) dX1_shorten_12 ?_
      refine lv_iconst (v := 1) hx hb dX1_shorten_15 (by decide) ?_
      refine lv_iload_n hx hb dX1_shorten_16 rfl (lv_at hl 2 rfl) ?_
      refine lv_ishl hx hb dX1_shorten_17 ?_
      refine lv_ior hx hb dX1_shorten_18 ?_
      refine x_put (C := RX1) (T := TX1) (N := 8) hx hb hts inX1_shorten_X1 tyX1 tyX1_ok nmX1 hown hG hw (xOh hq) rfl 7 (by decide) (hts (.fieldLink RX1 15 "SixNumbers$Heap" "changed" "I") (List.mem_of_getElem? (i := 2) rfl)) (fun _ h9 => h9) rfl (ty := .int) (by decide +kernel) rfl rfl (xf_l hq 7 (by decide)) (xf_s7 hq _ _ _) dX1_shorten_19 (fun A_3 H locs eA_3 hw => ?_)
      have h := h A_3 eA_3
      obtain ⟨x2_4, ex2_4⟩ : ∃ y : Int32, y = x2 + (1 : Int32) := ⟨_, rfl⟩
      have h := h x2_4 ex2_4
      refine lv_iinc (v := x2_4) (lv' := [(2, .int x2_4), (0, .ref (xad G (2 + 6 * q))), (1, .int x1)]) hx hb dX1_shorten_22 hl (k := 2) rfl (by rw [ex2_4]; rfl) (by decide) rfl (fun ls hl => ?_)
      refine lv_goto (tgt := 2) hx hb dX1_shorten_25 (by decide) ?_
      exact ih x2_4 A_3 L _ _ _ hw (lv_sub hl [1, 2, 0] rfl) h
set_option maxHeartbeats 4000000 in
set_option maxRecDepth 100000 in
theorem t_X1_shorten_0 (C0 : xC p s m args meth c G cX1_shorten none wsX1_shorten RX1 3) {q : Nat} (hq : q < 2) {post : xM → xL → Prop} {x1 : Int32} {A : xM} {L : xL} {H : Heap} {locs : List Loc} {ls : Array Slot} (hw : xW G s.heap A L H locs) (hl : lv_has ls 3 [(0, .ref (xad G (2 + 6 * q))), (1, .int x1)]) (h : v_X1_shorten q x1 A L post) : W p l e rX1_shorten s m args below meth c H locs 0 0 (MQ below (xQv G post) args s 0 0 (xAf G)) (F0 m 0 ls []) := by
  obtain ⟨hx, hb, hr, hts, hown, hml, hlocks, hG⟩ := id C0
  unfold v_X1_shorten at h
  refine lv_iload_n hx hb dX1_shorten_0 rfl (lv_at hl 1 rfl) ?_
  refine lv_istore_n (lv' := [(2, .int x1), (0, .ref (xad G (2 + 6 * q))), (1, .int x1)]) hx hb dX1_shorten_1 rfl hl (by decide) rfl (fun ls hl => ?_)
  obtain ⟨n9, h⟩ := h
  exact t_X1_shorten_2 C0 hq n9 x1 A L _ _ _ hw (lv_sub hl [1, 2, 0] rfl) h
theorem c_X1_shorten {l : Launch} {G : xGt} {q : Nat} (hq : q < 2) {x1 : Int32} {A : xM} {L : xL} {post : xM → xL → Prop} (h : v_X1_shorten q x1 A L post) : Met l yX1_shorten wsX1_shorten rX1_shorten (va_Pc [.ref (xad G (2 + 6 * q)), .int x1] (xPre G A L)) (xQv G post) 0 0 (xAf G) :=
  x_met RX1 rfl (by decide) rfl (Nat.le_of_ble_eq_true rfl) (fun p e s m below meth c ls C0 hw hl => t_X1_shorten_0 C0 hq hw hl h)
end MECH
abbrev rX1_forget : Room := { frames := 0, cells := 0, slots := 0, locals := 0 }
theorem inX1_forget_X1 : ∀ w ∈ wsX10, w ∈ wsX1_forget := fun w h => List.mem_cons_of_mem _ (List.mem_append_right _ h)
def v_X1_forget_2 (q : Nat) (x1 : Int32) (post : xM → xL → Prop) : Nat → Int32 → xM → xL → Prop
  | 0, _, _, _ => False
  | n + 1, x2, A, L => vp_in x1 (64 - 48 * q) ∧ (((A (6 + 6 * q) x1.toNatClampNeg) ≤ x2 → (∀ A_3 : xM, A_3 = xu A (6 + 6 * q) x1.toNatClampNeg (0 : Int32) → (post A_3 L))) ∧ (¬ (A (6 + 6 * q) x1.toNatClampNeg) ≤ x2 → (vp_in x2 3000 ∧ (∀ x3_5 : Int32, x3_5 = (A ((100 + 80 * q) + x1.toNatClampNeg) x2.toNatClampNeg) → (vp_in x3_5 3001 ∧ (∀ L_7 : xL, L_7 = xul L ((36 + 128 * q) + x1.toNatClampNeg) x3_5.toNatClampNeg (0 : Int64) → (∀ A_8 : xM, A_8 = xu A (7 + 6 * q) x3_5.toNatClampNeg ((A (7 + 6 * q) x3_5.toNatClampNeg) - (1 : Int32)) → (∀ x2_9 : Int32, x2_9 = x2 + (1 : Int32) → (v_X1_forget_2 q x1 post n x2_9 A_8 L_7)))))))))
def v_X1_forget (q : Nat) (x1 : Int32) (A : xM) (L : xL) (post : xM → xL → Prop) : Prop := ∃ k9 : Nat, v_X1_forget_2 q x1 post k9 (0 : Int32) A L
section MECH
variable {p : Program} {l : Launch} {e : Env} {s : State} {m : MethodId} {args : Array Value} {below : List Frame} {meth : Method} {c : Code} {G : xGt}
set_option maxHeartbeats 4000000 in
set_option maxRecDepth 100000 in
theorem t_X1_forget_2 (C0 : xC p s m args meth c G cX1_forget none wsX1_forget RX1 4) {q : Nat} (hq : q < 2) {post : xM → xL → Prop} {x1 : Int32} : ∀ (n : Nat) (x2 : Int32) (A : xM) (L : xL) (H : Heap) (locs : List Loc) (ls : Array Slot), xW G s.heap A L H locs → lv_has ls 4 [(0, .ref (xad G (2 + 6 * q))), (1, .int x1), (2, .int x2)] → v_X1_forget_2 q x1 post n x2 A L → W p l e rX1_forget s m args below meth c H locs 0 0 (MQ below (xQv G post) args s 0 0 (xAf G)) (F0 m 2 ls []) := by
  obtain ⟨hx, hb, hr, hts, hown, hml, hlocks, hG⟩ := id C0
  intro n
  induction n with
  | zero => intro x2 A L H locs ls hw hl h; exact (show False from h).elim
  | succ n ih =>
    intro x2 A L H locs ls hw hl h
    unfold v_X1_forget_2 at h
    refine lv_iload_n hx hb dX1_forget_2 rfl (lv_at hl 2 rfl) ?_
    refine lv_aload_n hx hb dX1_forget_3 rfl (lv_at hl 0 rfl) ?_
    refine x_get (C := RX1) (T := TX1) (N := 8) hx hb hts inX1_forget_X1 hown hG hw (xOh hq) rfl 4 (by decide) (hts (.fieldLink RX1 36 "SixNumbers$Heap" "founds" "[I") (List.mem_of_getElem? (i := 1) rfl)) (fun _ h9 => h9) (v := .ref (xad G (6 + 6 * q))) (xf_h4 hq) dX1_forget_4 ?_
    refine lv_iload_n hx hb dX1_forget_7 rfl (lv_at hl 1 rfl) ?_
    have i_1 := h.1
    have h := h.2
    refine x_iald hx hb hG hw (xhN hq) i_1 dX1_forget_8 ?_
    refine lv_icmp_ge (tgt := 46) hx hb dX1_forget_9 (by decide) (fun c_2 => ?_) (fun c_2 => ?_)
    · have h := h.1 c_2
      refine lv_aload_n hx hb dX1_forget_46 rfl (lv_at hl 0 rfl) ?_
      refine x_get (C := RX1) (T := TX1) (N := 8) hx hb hts inX1_forget_X1 hown hG hw (xOh hq) rfl 4 (by decide) (hts (.fieldLink RX1 36 "SixNumbers$Heap" "founds" "[I") (List.mem_of_getElem? (i := 1) rfl)) (fun _ h9 => h9) (v := .ref (xad G (6 + 6 * q))) (xf_h4 hq) dX1_forget_47 ?_
      refine lv_iload_n hx hb dX1_forget_50 rfl (lv_at hl 1 rfl) ?_
      refine lv_iconst (v := 0) hx hb dX1_forget_51 (by decide) ?_
      refine x_iast hx hb hG hw (xhN hq) i_1 dX1_forget_52 (fun A_3 H locs eA_3 hw => ?_)
      have h := h A_3 eA_3
      exact x_vret hx hb hr hlocks hG hw h dX1_forget_53
    · have h := h.2 c_2
      refine lv_aload_n hx hb dX1_forget_12 rfl (lv_at hl 0 rfl) ?_
      refine x_get (C := RX1) (T := TX1) (N := 8) hx hb hts inX1_forget_X1 hown hG hw (xOh hq) rfl 3 (by decide) (hts (.fieldLink RX1 33 "SixNumbers$Heap" "found" "[[I") (List.mem_of_getElem? (i := 2) rfl)) (fun _ h9 => h9) (v := .ref (xad G (5 + 6 * q))) (xf_h3 hq) dX1_forget_13 ?_
      refine lv_iload_n hx hb dX1_forget_16 rfl (lv_at hl 1 rfl) ?_
      refine x_aald hx hb hG hw (xhF hq) .int rfl i_1 dX1_forget_17 ?_
      refine lv_iload_n hx hb dX1_forget_18 rfl (lv_at hl 2 rfl) ?_
      have i_4 := h.1
      have h := h.2
      refine x_iald hx hb hG hw (xrF hq i_1) i_4 dX1_forget_19 ?_
      refine lv_topi (fun x3_5 ex3_5 => ?_)
      have h := h x3_5 ex3_5
      refine lv_istore_n (lv' := [(3, .int x3_5), (0, .ref (xad G (2 + 6 * q))), (1, .int x1), (2, .int x2)]) hx hb dX1_forget_20 rfl hl (by decide) rfl (fun ls hl => ?_)
      refine lv_aload_n hx hb dX1_forget_21 rfl (lv_at hl 1 rfl) ?_
      refine x_get (C := RX1) (T := TX1) (N := 8) hx hb hts inX1_forget_X1 hown hG hw (xOh hq) rfl 2 (by decide) (hts (.fieldLink RX1 28 "SixNumbers$Heap" "counts" "[[J") (List.mem_of_getElem? (i := 3) rfl)) (fun _ h9 => h9) (v := .ref (xad G (4 + 6 * q))) (xf_h2 hq) dX1_forget_22 ?_
      refine lv_iload_n hx hb dX1_forget_25 rfl (lv_at hl 2 rfl) ?_
      refine x_aald hx hb hG hw (xhC hq) .long rfl i_1 dX1_forget_26 ?_
      refine lv_iload_n hx hb dX1_forget_27 rfl (lv_at hl 0 rfl) ?_
      refine lv_lconst (v := 0) hx hb dX1_forget_28 (by decide) ?_
      have i_6 := h.1
      have h := h.2
      refine x_last hx hb hG hw (xrC hq i_1) i_6 dX1_forget_29 (fun L_7 H locs eL_7 hw => ?_)
      have h := h L_7 eL_7
      refine lv_aload_n hx hb dX1_forget_30 rfl (lv_at hl 1 rfl) ?_
      refine x_get (C := RX1) (T := TX1) (N := 8) hx hb hts inX1_forget_X1 hown hG hw (xOh hq) rfl 5 (by decide) (hts (.fieldLink RX1 39 "SixNumbers$Heap" "holders" "[I") (List.mem_of_getElem? (i := 4) rfl)) (fun _ h9 => h9) (v := .ref (xad G (7 + 6 * q))) (xf_h5 hq) dX1_forget_31 ?_
      refine lv_iload_n hx hb dX1_forget_34 rfl (lv_at hl 0 rfl) ?_
      refine lv_dup2_11 hx hb dX1_forget_35 rfl rfl ?_
      refine x_iald hx hb hG hw (xhH hq) i_6 dX1_forget_36 ?_
      refine lv_iconst (v := 1) hx hb dX1_forget_37 (by decide) ?_
      refine lv_isub hx hb dX1_forget_38 ?_
      refine x_iast hx hb hG hw (xhH hq) i_6 dX1_forget_39 (fun A_8 H locs eA_8 hw => ?_)
      have h := h A_8 eA_8
      obtain ⟨x2_9, ex2_9⟩ : ∃ y : Int32, y = x2 + (1 : Int32) := ⟨_, rfl⟩
      have h := h x2_9 ex2_9
      refine lv_iinc (v := x2_9) (lv' := [(2, .int x2_9), (3, .int x3_5), (0, .ref (xad G (2 + 6 * q))), (1, .int x1)]) hx hb dX1_forget_40 hl (k := 3) rfl (by rw [ex2_9]; rfl) (by decide) rfl (fun ls hl => ?_)
      refine lv_goto (tgt := 2) hx hb dX1_forget_43 (by decide) ?_
      exact ih x2_9 A_8 L_7 _ _ _ hw (lv_sub hl [2, 3, 0] rfl) h
set_option maxHeartbeats 4000000 in
set_option maxRecDepth 100000 in
theorem t_X1_forget_0 (C0 : xC p s m args meth c G cX1_forget none wsX1_forget RX1 4) {q : Nat} (hq : q < 2) {post : xM → xL → Prop} {x1 : Int32} {A : xM} {L : xL} {H : Heap} {locs : List Loc} {ls : Array Slot} (hw : xW G s.heap A L H locs) (hl : lv_has ls 4 [(0, .ref (xad G (2 + 6 * q))), (1, .int x1)]) (h : v_X1_forget q x1 A L post) : W p l e rX1_forget s m args below meth c H locs 0 0 (MQ below (xQv G post) args s 0 0 (xAf G)) (F0 m 0 ls []) := by
  obtain ⟨hx, hb, hr, hts, hown, hml, hlocks, hG⟩ := id C0
  unfold v_X1_forget at h
  refine lv_iconst (v := 0) hx hb dX1_forget_0 (by decide) ?_
  refine lv_istore_n (lv' := [(2, .int (0 : Int32)), (0, .ref (xad G (2 + 6 * q))), (1, .int x1)]) hx hb dX1_forget_1 rfl hl (by decide) rfl (fun ls hl => ?_)
  obtain ⟨n9, h⟩ := h
  exact t_X1_forget_2 C0 hq n9 (0 : Int32) A L _ _ _ hw (lv_sub hl [1, 2, 0] rfl) h
theorem c_X1_forget {l : Launch} {G : xGt} {q : Nat} (hq : q < 2) {x1 : Int32} {A : xM} {L : xL} {post : xM → xL → Prop} (h : v_X1_forget q x1 A L post) : Met l yX1_forget wsX1_forget rX1_forget (va_Pc [.ref (xad G (2 + 6 * q)), .int x1] (xPre G A L)) (xQv G post) 0 0 (xAf G) :=
  x_met RX1 rfl (by decide) rfl (Nat.le_of_ble_eq_true rfl) (fun p e s m below meth c ls C0 hw hl => t_X1_forget_0 C0 hq hw hl h)
end MECH
abbrev rX1_add : Room := { frames := 0, cells := 0, slots := 0, locals := 0 }
theorem inX1_add_X1 : ∀ w ∈ wsX10, w ∈ wsX1_add := fun w h => List.mem_cons_of_mem _ (List.mem_append_right _ h)
def v_X1_add_78 (q : Nat) (x1 : Int32) (x2 : Int32) (y3 : Int64) (A : xM) (L : xL) (post : xM → xL → Prop) : Prop := vp_in x1 (64 - 48 * q) ∧ (vp_in x2 3001 ∧ (∀ L_3 : xL, L_3 = xul L ((36 + 128 * q) + x1.toNatClampNeg) x2.toNatClampNeg ((L ((36 + 128 * q) + x1.toNatClampNeg) x2.toNatClampNeg) + y3) → (post A L_3)))
def v_X1_add (q : Nat) (x1 : Int32) (x2 : Int32) (y3 : Int64) (x5 : Int32) (A : xM) (L : xL) (post : xM → xL → Prop) : Prop := (x2 < (1 : Int32) → (post A L)) ∧ (¬ x2 < (1 : Int32) → ((x5 < x2 → (post A L)) ∧ (¬ x5 < x2 → ((x2 ≤ (3000 : Int32) → (vp_in x1 (64 - 48 * q) ∧ (vp_in x2 3001 ∧ ((¬ (lg_cmp (L ((36 + 128 * q) + x1.toNatClampNeg) x2.toNatClampNeg) (0 : Int64)) = 0 → (v_X1_add_78 q x1 x2 y3 A L post)) ∧ ((lg_cmp (L ((36 + 128 * q) + x1.toNatClampNeg) x2.toNatClampNeg) (0 : Int64)) = 0 → (((3000 : Int32) ≤ (A (6 + 6 * q) x1.toNatClampNeg) → (v_X1_add_78 q x1 x2 y3 A L post)) ∧ (¬ (3000 : Int32) ≤ (A (6 + 6 * q) x1.toNatClampNeg) → (vp_in (A (6 + 6 * q) x1.toNatClampNeg) 3000 ∧ (∀ A_9 : xM, A_9 = xu A ((100 + 80 * q) + x1.toNatClampNeg) (A (6 + 6 * q) x1.toNatClampNeg).toNatClampNeg x2 → (∀ A_10 : xM, A_10 = xu A_9 (6 + 6 * q) x1.toNatClampNeg ((A_9 (6 + 6 * q) x1.toNatClampNeg) + (1 : Int32)) → (∀ A_11 : xM, A_11 = xu A_10 (7 + 6 * q) x2.toNatClampNeg ((A_10 (7 + 6 * q) x2.toNatClampNeg) + (1 : Int32)) → (v_X1_add_78 q x1 x2 y3 A_11 L post)))))))))))) ∧ (¬ x2 ≤ (3000 : Int32) → (post A L))))))
section MECH
variable {p : Program} {l : Launch} {e : Env} {s : State} {m : MethodId} {args : Array Value} {below : List Frame} {meth : Method} {c : Code} {G : xGt}
set_option maxHeartbeats 4000000 in
set_option maxRecDepth 100000 in
theorem t_X1_add_78 (C0 : xC p s m args meth c G cX1_add none wsX1_add RX1 6) {q : Nat} (hq : q < 2) {post : xM → xL → Prop} {x1 : Int32} {x2 : Int32} {y3 : Int64} {A : xM} {L : xL} {H : Heap} {locs : List Loc} {ls : Array Slot} (hw : xW G s.heap A L H locs) (hl : lv_has ls 6 [(0, .ref (xad G (2 + 6 * q))), (1, .int x1), (2, .int x2), (3, .long y3)]) (h : v_X1_add_78 q x1 x2 y3 A L post) : W p l e rX1_add s m args below meth c H locs 0 0 (MQ below (xQv G post) args s 0 0 (xAf G)) (F0 m 78 ls []) := by
  obtain ⟨hx, hb, hr, hts, hown, hml, hlocks, hG⟩ := id C0
  unfold v_X1_add_78 at h
  refine lv_aload_n hx hb dX1_add_78 rfl (lv_at hl 0 rfl) ?_
  refine x_get (C := RX1) (T := TX1) (N := 8) hx hb hts inX1_add_X1 hown hG hw (xOh hq) rfl 2 (by decide) (hts (.fieldLink RX1 28 "SixNumbers$Heap" "counts" "[[J") (List.mem_of_getElem? (i := 1) rfl)) (fun _ h9 => h9) (v := .ref (xad G (4 + 6 * q))) (xf_h2 hq) dX1_add_79 ?_
  refine lv_iload_n hx hb dX1_add_82 rfl (lv_at hl 1 rfl) ?_
  have i_1 := h.1
  have h := h.2
  refine x_aald hx hb hG hw (xhC hq) .long rfl i_1 dX1_add_83 ?_
  refine lv_iload_n hx hb dX1_add_84 rfl (lv_at hl 2 rfl) ?_
  refine lv_dup2_11 hx hb dX1_add_85 rfl rfl ?_
  have i_2 := h.1
  have h := h.2
  refine x_lald hx hb hG hw (xrC hq i_1) i_2 dX1_add_86 ?_
  refine lv_lload_n hx hb dX1_add_87 rfl (lv_at hl 3 rfl) ?_
  refine lv_ladd hx hb dX1_add_88 ?_
  refine x_last hx hb hG hw (xrC hq i_1) i_2 dX1_add_89 (fun L_3 H locs eL_3 hw => ?_)
  have h := h L_3 eL_3
  exact x_vret hx hb hr hlocks hG hw h dX1_add_90
set_option maxHeartbeats 4000000 in
set_option maxRecDepth 100000 in
theorem t_X1_add_0 (C0 : xC p s m args meth c G cX1_add none wsX1_add RX1 6) {q : Nat} (hq : q < 2) {post : xM → xL → Prop} {x1 : Int32} {x2 : Int32} {y3 : Int64} {x5 : Int32} {A : xM} {L : xL} {H : Heap} {locs : List Loc} {ls : Array Slot} (hw : xW G s.heap A L H locs) (hl : lv_has ls 6 [(0, .ref (xad G (2 + 6 * q))), (1, .int x1), (2, .int x2), (3, .long y3), (5, .int x5)]) (h : v_X1_add q x1 x2 y3 x5 A L post) : W p l e rX1_add s m args below meth c H locs 0 0 (MQ below (xQv G post) args s 0 0 (xAf G)) (F0 m 0 ls []) := by
  obtain ⟨hx, hb, hr, hts, hown, hml, hlocks, hG⟩ := id C0
  unfold v_X1_add at h
  refine lv_iload_n hx hb dX1_add_0 rfl (lv_at hl 2 rfl) ?_
  refine lv_iconst (v := 1) hx hb dX1_add_1 (by decide) ?_
  refine lv_icmp_lt (tgt := 18) hx hb dX1_add_2 (by decide) (fun c_1 => ?_) (fun c_1 => ?_)
  · have h := h.1 c_1
    exact x_vret hx hb hr hlocks hG hw h dX1_add_18
  · have h := h.2 c_1
    refine lv_iload_n hx hb dX1_add_5 rfl (lv_at hl 2 rfl) ?_
    refine lv_iload hx hb dX1_add_6 (lv_at hl 4 rfl) ?_
    refine lv_icmp_gt (tgt := 18) hx hb dX1_add_8 (by decide) (fun c_2 => ?_) (fun c_2 => ?_)
    · have h := h.1 c_2
      exact x_vret hx hb hr hlocks hG hw h dX1_add_18
    · have h := h.2 c_2
      refine lv_iload_n hx hb dX1_add_11 rfl (lv_at hl 2 rfl) ?_
      refine lv_sipush (v := 3000) hx hb dX1_add_12 (by decide) ?_
      refine lv_icmp_le (tgt := 19) hx hb dX1_add_15 (by decide) (fun c_3 => ?_) (fun c_3 => ?_)
      · have h := h.1 c_3
        refine lv_aload_n hx hb dX1_add_19 rfl (lv_at hl 0 rfl) ?_
        refine x_get (C := RX1) (T := TX1) (N := 8) hx hb hts inX1_add_X1 hown hG hw (xOh hq) rfl 2 (by decide) (hts (.fieldLink RX1 28 "SixNumbers$Heap" "counts" "[[J") (List.mem_of_getElem? (i := 1) rfl)) (fun _ h9 => h9) (v := .ref (xad G (4 + 6 * q))) (xf_h2 hq) dX1_add_20 ?_
        refine lv_iload_n hx hb dX1_add_23 rfl (lv_at hl 1 rfl) ?_
        have i_4 := h.1
        have h := h.2
        refine x_aald hx hb hG hw (xhC hq) .long rfl i_4 dX1_add_24 ?_
        refine lv_iload_n hx hb dX1_add_25 rfl (lv_at hl 2 rfl) ?_
        have i_5 := h.1
        have h := h.2
        refine x_lald hx hb hG hw (xrC hq i_4) i_5 dX1_add_26 ?_
        refine lv_lconst (v := 0) hx hb dX1_add_27 (by decide) ?_
        refine W.lcmp hx hb dX1_add_28 ?_
        refine lv_if_ne (tgt := 78) hx hb dX1_add_29 (by decide) (fun c_6 => ?_) (fun c_6 => ?_)
        · have h := h.1 c_6
          exact t_X1_add_78 C0 hq hw (lv_sub hl [0, 1, 2, 3] rfl) h
        · have h := h.2 c_6
          refine lv_aload_n hx hb dX1_add_32 rfl (lv_at hl 0 rfl) ?_
          refine x_get (C := RX1) (T := TX1) (N := 8) hx hb hts inX1_add_X1 hown hG hw (xOh hq) rfl 4 (by decide) (hts (.fieldLink RX1 36 "SixNumbers$Heap" "founds" "[I") (List.mem_of_getElem? (i := 2) rfl)) (fun _ h9 => h9) (v := .ref (xad G (6 + 6 * q))) (xf_h4 hq) dX1_add_33 ?_
          refine lv_iload_n hx hb dX1_add_36 rfl (lv_at hl 1 rfl) ?_
          refine x_iald hx hb hG hw (xhN hq) i_4 dX1_add_37 ?_
          refine lv_sipush (v := 3000) hx hb dX1_add_38 (by decide) ?_
          refine lv_icmp_ge (tgt := 78) hx hb dX1_add_41 (by decide) (fun c_7 => ?_) (fun c_7 => ?_)
          · have h := h.1 c_7
            exact t_X1_add_78 C0 hq hw (lv_sub hl [0, 1, 2, 3] rfl) h
          · have h := h.2 c_7
            refine lv_aload_n hx hb dX1_add_44 rfl (lv_at hl 0 rfl) ?_
            refine x_get (C := RX1) (T := TX1) (N := 8) hx hb hts inX1_add_X1 hown hG hw (xOh hq) rfl 3 (by decide) (hts (.fieldLink RX1 33 "SixNumbers$Heap" "found" "[[I") (List.mem_of_getElem? (i := 3) rfl)) (fun _ h9 => h9) (v := .ref (xad G (5 + 6 * q))) (xf_h3 hq) dX1_add_45 ?_
            refine lv_iload_n hx hb dX1_add_48 rfl (lv_at hl 1 rfl) ?_
            refine x_aald hx hb hG hw (xhF hq) .int rfl i_4 dX1_add_49 ?_
            refine lv_aload_n hx hb dX1_add_50 rfl (lv_at hl 0 rfl) ?_
            refine x_get (C := RX1) (T := TX1) (N := 8) hx hb hts inX1_add_X1 hown hG hw (xOh hq) rfl 4 (by decide) (hts (.fieldLink RX1 36 "SixNumbers$Heap" "founds" "[I") (List.mem_of_getElem? (i := 2) rfl)) (fun _ h9 => h9) (v := .ref (xad G (6 + 6 * q))) (xf_h4 hq) dX1_add_51 ?_
            refine lv_iload_n hx hb dX1_add_54 rfl (lv_at hl 1 rfl) ?_
            refine x_iald hx hb hG hw (xhN hq) i_4 dX1_add_55 ?_
            refine lv_iload_n hx hb dX1_add_56 rfl (lv_at hl 2 rfl) ?_
            have i_8 := h.1
            have h := h.2
            refine x_iast hx hb hG hw (xrF hq i_4) i_8 dX1_add_57 (fun A_9 H locs eA_9 hw => ?_)
            have h := h A_9 eA_9
            refine lv_aload_n hx hb dX1_add_58 rfl (lv_at hl 0 rfl) ?_
            refine x_get (C := RX1) (T := TX1) (N := 8) hx hb hts inX1_add_X1 hown hG hw (xOh hq) rfl 4 (by decide) (hts (.fieldLink RX1 36 "SixNumbers$Heap" "founds" "[I") (List.mem_of_getElem? (i := 2) rfl)) (fun _ h9 => h9) (v := .ref (xad G (6 + 6 * q))) (xf_h4 hq) dX1_add_59 ?_
            refine lv_iload_n hx hb dX1_add_62 rfl (lv_at hl 1 rfl) ?_
            refine lv_dup2_11 hx hb dX1_add_63 rfl rfl ?_
            refine x_iald hx hb hG hw (xhN hq) i_4 dX1_add_64 ?_
            refine lv_iconst (v := 1) hx hb dX1_add_65 (by decide) ?_
            refine lv_iadd hx hb dX1_add_66 ?_
            refine x_iast hx hb hG hw (xhN hq) i_4 dX1_add_67 (fun A_10 H locs eA_10 hw => ?_)
            have h := h A_10 eA_10
            refine lv_aload_n hx hb dX1_add_68 rfl (lv_at hl 0 rfl) ?_
            refine x_get (C := RX1) (T := TX1) (N := 8) hx hb hts inX1_add_X1 hown hG hw (xOh hq) rfl 5 (by decide) (hts (.fieldLink RX1 39 "SixNumbers$Heap" "holders" "[I") (List.mem_of_getElem? (i := 4) rfl)) (fun _ h9 => h9) (v := .ref (xad G (7 + 6 * q))) (xf_h5 hq) dX1_add_69 ?_
            refine lv_iload_n hx hb dX1_add_72 rfl (lv_at hl 2 rfl) ?_
            refine lv_dup2_11 hx hb dX1_add_73 rfl rfl ?_
            refine x_iald hx hb hG hw (xhH hq) i_5 dX1_add_74 ?_
            refine lv_iconst (v := 1) hx hb dX1_add_75 (by decide) ?_
            refine lv_iadd hx hb dX1_add_76 ?_
            refine x_iast hx hb hG hw (xhH hq) i_5 dX1_add_77 (fun A_11 H locs eA_11 hw => ?_)
            have h := h A_11 eA_11
            exact t_X1_add_78 C0 hq hw (lv_sub hl [0, 1, 2, 3] rfl) h
      · have h := h.2 c_3
        exact x_vret hx hb hr hlocks hG hw h dX1_add_18
theorem c_X1_add {l : Launch} {G : xGt} {q : Nat} (hq : q < 2) {x1 : Int32} {x2 : Int32} {y3 : Int64} {x5 : Int32} {A : xM} {L : xL} {post : xM → xL → Prop} (h : v_X1_add q x1 x2 y3 x5 A L post) : Met l yX1_add wsX1_add rX1_add (va_Pc [.ref (xad G (2 + 6 * q)), .int x1, .int x2, .long y3, .int x5] (xPre G A L)) (xQv G post) 0 0 (xAf G) :=
  x_met RX1 rfl (by decide) rfl (Nat.le_of_ble_eq_true rfl) (fun p e s m below meth c ls C0 hw hl => t_X1_add_0 C0 hq hw hl h)
end MECH
abbrev rX1_join : Room := { frames := 1, cells := 0, slots := 0, locals := 25 }
theorem inX1_join_X1 : ∀ w ∈ wsX10, w ∈ wsX1_join := fun w h => List.mem_cons_of_mem _ (List.mem_append_left _ (List.mem_append_right _ h))
theorem inX1_join_X3 : ∀ w ∈ wsX30, w ∈ wsX1_join := fun w h => List.mem_cons_of_mem _ (List.mem_append_right _ h)
def v_X1_join_223 (q : Nat) (x1 : Int32) (x2 : Int32) (x3 : Int32) (x4 : Int32) (x5 : Int32) (x6 : Int32) (x7 : Int32) (x8 : Int32) (x9 : Int32) (x10 : Int32) (x11 : Int32) (y12 : Int64) (A : xM) (L : xL) (R_43 : Int32 → xM → xL → Prop) (R_68 : Int32 → xM → xL → Prop) (post : xM → xL → Prop) : Prop := (x7 = 0 → (∀ x10_2 : Int32, x10_2 = x10 + (1 : Int32) → (R_68 x10_2 A L))) ∧ (¬ x7 = 0 → ((x9 ≤ 0 → (∀ x10_4 : Int32, x10_4 = x10 + (1 : Int32) → (R_68 x10_4 A L))) ∧ (¬ x9 ≤ 0 → (¬ x9 = 0 ∧ ((¬ (x11 - x11 / x9 * x9) = 0 → (∀ x10_7 : Int32, x10_7 = x10 + (1 : Int32) → (R_68 x10_7 A L))) ∧ ((x11 - x11 / x9 * x9) = 0 → (¬ x9 = 0 ∧ (v_X1_add q x1 (x11 / x9) y12 (A 1 1) A L (fun (A_9 : xM) (L_10 : xL) => (∀ x10_11 : Int32, x10_11 = x10 + (1 : Int32) → (R_68 x10_11 A_9 L_10)))))))))))
def v_X1_join_186 (q : Nat) (x1 : Int32) (x2 : Int32) (x3 : Int32) (x4 : Int32) (x5 : Int32) (x6 : Int32) (x7 : Int32) (x8 : Int32) (x9 : Int32) (x10 : Int32) (x11 : Int32) (y12 : Int64) (A : xM) (L : xL) (R_43 : Int32 → xM → xL → Prop) (R_68 : Int32 → xM → xL → Prop) (post : xM → xL → Prop) : Prop := (x7 = 0 → (v_X1_join_223 q x1 x2 x3 x4 x5 x6 x7 x8 x9 x10 x11 y12 A L R_43 R_68 post)) ∧ (¬ x7 = 0 → ((x11 ≤ 0 → (v_X1_join_223 q x1 x2 x3 x4 x5 x6 x7 x8 x9 x10 x11 y12 A L R_43 R_68 post)) ∧ (¬ x11 ≤ 0 → (¬ x11 = 0 ∧ ((¬ (x9 - x9 / x11 * x11) = 0 → (v_X1_join_223 q x1 x2 x3 x4 x5 x6 x7 x8 x9 x10 x11 y12 A L R_43 R_68 post)) ∧ ((x9 - x9 / x11 * x11) = 0 → (¬ x11 = 0 ∧ (v_X1_add q x1 (x9 / x11) y12 (A 1 1) A L (fun (A_6 : xM) (L_7 : xL) => (v_X1_join_223 q x1 x2 x3 x4 x5 x6 x7 x8 x9 x10 x11 y12 A_6 L_7 R_43 R_68 post))))))))))
def v_X1_join_162 (q : Nat) (x1 : Int32) (x2 : Int32) (x3 : Int32) (x4 : Int32) (x5 : Int32) (x6 : Int32) (x7 : Int32) (x8 : Int32) (x9 : Int32) (x10 : Int32) (x11 : Int32) (y12 : Int64) (A : xM) (L : xL) (R_43 : Int32 → xM → xL → Prop) (R_68 : Int32 → xM → xL → Prop) (post : xM → xL → Prop) : Prop := (x6 = 0 → (v_X1_join_186 q x1 x2 x3 x4 x5 x6 x7 x8 x9 x10 x11 y12 A L R_43 R_68 post)) ∧ (¬ x6 = 0 → (v_X1_add q x1 (x9 * x11) y12 (A 1 1) A L (fun (A_2 : xM) (L_3 : xL) => (v_X1_join_186 q x1 x2 x3 x4 x5 x6 x7 x8 x9 x10 x11 y12 A_2 L_3 R_43 R_68 post))))
def v_X1_join_135 (q : Nat) (x1 : Int32) (x2 : Int32) (x3 : Int32) (x4 : Int32) (x5 : Int32) (x6 : Int32) (x7 : Int32) (x8 : Int32) (x9 : Int32) (x10 : Int32) (x11 : Int32) (y12 : Int64) (A : xM) (L : xL) (R_43 : Int32 → xM → xL → Prop) (R_68 : Int32 → xM → xL → Prop) (post : xM → xL → Prop) : Prop := (x5 = 0 → (v_X1_join_162 q x1 x2 x3 x4 x5 x6 x7 x8 x9 x10 x11 y12 A L R_43 R_68 post)) ∧ (¬ x5 = 0 → (v_X1_add q x1 (if 0 ≤ (x9 - x11) then (x9 - x11) else 0 - (x9 - x11)) y12 (A 1 1) A L (fun (A_2 : xM) (L_3 : xL) => (v_X1_join_162 q x1 x2 x3 x4 x5 x6 x7 x8 x9 x10 x11 y12 A_2 L_3 R_43 R_68 post))))
def v_X1_join_68 (q : Nat) (x1 : Int32) (x2 : Int32) (x3 : Int32) (x4 : Int32) (x5 : Int32) (x6 : Int32) (x7 : Int32) (x8 : Int32) (x9 : Int32) (R_43 : Int32 → xM → xL → Prop) (post : xM → xL → Prop) : Nat → Int32 → xM → xL → Prop
  | 0, _, _, _ => False
  | n + 1, x10, A, L => vp_in x3 (64 - 48 * q) ∧ (((A (6 + 6 * q) x3.toNatClampNeg) ≤ x10 → (∀ x8_3 : Int32, x8_3 = x8 + (1 : Int32) → (R_43 x8_3 A L))) ∧ (¬ (A (6 + 6 * q) x3.toNatClampNeg) ≤ x10 → (vp_in x10 3000 ∧ (∀ x11_5 : Int32, x11_5 = (A ((100 + 80 * q) + x3.toNatClampNeg) x10.toNatClampNeg) → (vp_in x2 (64 - 48 * q) ∧ (vp_in x9 3001 ∧ (vp_in x11_5 3001 ∧ (∀ y12_9 : Int64, y12_9 = ((L ((36 + 128 * q) + x2.toNatClampNeg) x9.toNatClampNeg) * (L ((36 + 128 * q) + x3.toNatClampNeg) x11_5.toNatClampNeg)) → ((x4 = 0 → (v_X1_join_135 q x1 x2 x3 x4 x5 x6 x7 x8 x9 x10 x11_5 y12_9 A L R_43 (fun x10 A L => v_X1_join_68 q x1 x2 x3 x4 x5 x6 x7 x8 x9 R_43 post n x10 A L) post)) ∧ (¬ x4 = 0 → (v_X1_add q x1 (x9 + x11_5) y12_9 (A 1 1) A L (fun (A_11 : xM) (L_12 : xL) => (v_X1_join_135 q x1 x2 x3 x4 x5 x6 x7 x8 x9 x10 x11_5 y12_9 A_11 L_12 R_43 (fun x10 A L => v_X1_join_68 q x1 x2 x3 x4 x5 x6 x7 x8 x9 R_43 post n x10 A L) post)))))))))))))
def v_X1_join_43 (q : Nat) (x1 : Int32) (x2 : Int32) (x3 : Int32) (x4 : Int32) (x5 : Int32) (x6 : Int32) (x7 : Int32) (post : xM → xL → Prop) : Nat → Int32 → xM → xL → Prop
  | 0, _, _, _ => False
  | n + 1, x8, A, L => vp_in x2 (64 - 48 * q) ∧ (((A (6 + 6 * q) x2.toNatClampNeg) ≤ x8 → (post A L)) ∧ (¬ (A (6 + 6 * q) x2.toNatClampNeg) ≤ x8 → (vp_in x8 3000 ∧ (∀ x9_4 : Int32, x9_4 = (A ((100 + 80 * q) + x2.toNatClampNeg) x8.toNatClampNeg) → (∃ k9 : Nat, v_X1_join_68 q x1 x2 x3 x4 x5 x6 x7 x8 x9_4 (fun x8 A L => v_X1_join_43 q x1 x2 x3 x4 x5 x6 x7 post n x8 A L) post k9 (0 : Int32) A L)))))
def v_X1_join (q : Nat) (x1 : Int32) (x2 : Int32) (x3 : Int32) (A : xM) (L : xL) (post : xM → xL → Prop) : Prop := v_X3_allow (0 : Int32) A L (fun (r_1 : Int32) => (v_X3_allow (1 : Int32) A L (fun (r_2 : Int32) => (v_X3_allow (2 : Int32) A L (fun (r_3 : Int32) => (v_X3_allow (3 : Int32) A L (fun (r_4 : Int32) => (∃ k9 : Nat, v_X1_join_43 q x1 x2 x3 r_1 r_2 r_3 r_4 post k9 (0 : Int32) A L))))))))
section MECH
variable {p : Program} {l : Launch} {e : Env} {s : State} {m : MethodId} {args : Array Value} {below : List Frame} {meth : Method} {c : Code} {G : xGt}
set_option maxHeartbeats 4000000 in
set_option maxRecDepth 100000 in
theorem t_X1_join_223 (C0 : xC p s m args meth c G cX1_join none wsX1_join RX1 14) {q : Nat} (hq : q < 2) {post : xM → xL → Prop} {x1 : Int32} {x2 : Int32} {x3 : Int32} {x4 : Int32} {x5 : Int32} {x6 : Int32} {x7 : Int32} {x8 : Int32} {x9 : Int32} {x10 : Int32} {x11 : Int32} {y12 : Int64} {A : xM} {L : xL} {R_43 : Int32 → xM → xL → Prop} (hR_43 : ∀ (x8 : Int32) (A : xM) (L : xL) (H : Heap) (locs : List Loc) (ls : Array Slot), xW G s.heap A L H locs → lv_has ls 14 [(0, .ref (xad G (2 + 6 * q))), (1, .int x1), (2, .int x2), (3, .int x3), (4, .int x4), (5, .int x5), (6, .int x6), (7, .int x7), (8, .int x8)] → R_43 x8 A L → W p l e rX1_join s m args below meth c H locs 0 0 (MQ below (xQv G post) args s 0 0 (xAf G)) (F0 m 43 ls [])) {R_68 : Int32 → xM → xL → Prop} (hR_68 : ∀ (x10 : Int32) (A : xM) (L : xL) (H : Heap) (locs : List Loc) (ls : Array Slot), xW G s.heap A L H locs → lv_has ls 14 [(0, .ref (xad G (2 + 6 * q))), (1, .int x1), (2, .int x2), (3, .int x3), (4, .int x4), (5, .int x5), (6, .int x6), (7, .int x7), (8, .int x8), (9, .int x9), (10, .int x10)] → R_68 x10 A L → W p l e rX1_join s m args below meth c H locs 0 0 (MQ below (xQv G post) args s 0 0 (xAf G)) (F0 m 68 ls [])) {H : Heap} {locs : List Loc} {ls : Array Slot} (hw : xW G s.heap A L H locs) (hl : lv_has ls 14 [(0, .ref (xad G (2 + 6 * q))), (1, .int x1), (2, .int x2), (3, .int x3), (4, .int x4), (5, .int x5), (6, .int x6), (7, .int x7), (8, .int x8), (9, .int x9), (10, .int x10), (11, .int x11), (12, .long y12)]) (h : v_X1_join_223 q x1 x2 x3 x4 x5 x6 x7 x8 x9 x10 x11 y12 A L R_43 R_68 post) : W p l e rX1_join s m args below meth c H locs 0 0 (MQ below (xQv G post) args s 0 0 (xAf G)) (F0 m 223 ls []) := by
  obtain ⟨hx, hb, hr, hts, hown, hml, hlocks, hG⟩ := id C0
  unfold v_X1_join_223 at h
  refine lv_iload hx hb dX1_join_223 (lv_at hl 7 rfl) ?_
  refine lv_if_eq (tgt := 260) hx hb dX1_join_225 (by decide) (fun c_1 => ?_) (fun c_1 => ?_)
  · have h := h.1 c_1
    obtain ⟨x10_2, ex10_2⟩ : ∃ y : Int32, y = x10 + (1 : Int32) := ⟨_, rfl⟩
    have h := h x10_2 ex10_2
    refine lv_iinc (v := x10_2) (lv' := [(10, .int x10_2), (0, .ref (xad G (2 + 6 * q))), (1, .int x1), (2, .int x2), (3, .int x3), (4, .int x4), (5, .int x5), (6, .int x6), (7, .int x7), (8, .int x8), (9, .int x9), (11, .int x11), (12, .long y12)]) hx hb dX1_join_260 hl (k := 10) rfl (by rw [ex10_2]; rfl) (by decide) rfl (fun ls hl => ?_)
    refine lv_goto (tgt := 68) hx hb dX1_join_263 (by decide) ?_
    exact hR_68 x10_2 A L _ _ _ hw (lv_sub hl [1, 2, 3, 4, 5, 6, 7, 8, 9, 10, 0] rfl) h
  · have h := h.2 c_1
    refine lv_iload hx hb dX1_join_228 (lv_at hl 9 rfl) ?_
    refine lv_if_le (tgt := 260) hx hb dX1_join_230 (by decide) (fun c_3 => ?_) (fun c_3 => ?_)
    · have h := h.1 c_3
      obtain ⟨x10_4, ex10_4⟩ : ∃ y : Int32, y = x10 + (1 : Int32) := ⟨_, rfl⟩
      have h := h x10_4 ex10_4
      refine lv_iinc (v := x10_4) (lv' := [(10, .int x10_4), (0, .ref (xad G (2 + 6 * q))), (1, .int x1), (2, .int x2), (3, .int x3), (4, .int x4), (5, .int x5), (6, .int x6), (7, .int x7), (8, .int x8), (9, .int x9), (11, .int x11), (12, .long y12)]) hx hb dX1_join_260 hl (k := 10) rfl (by rw [ex10_4]; rfl) (by decide) rfl (fun ls hl => ?_)
      refine lv_goto (tgt := 68) hx hb dX1_join_263 (by decide) ?_
      exact hR_68 x10_4 A L _ _ _ hw (lv_sub hl [1, 2, 3, 4, 5, 6, 7, 8, 9, 10, 0] rfl) h
    · have h := h.2 c_3
      refine lv_iload hx hb dX1_join_233 (lv_at hl 11 rfl) ?_
      refine lv_iload hx hb dX1_join_235 (lv_at hl 9 rfl) ?_
      have z_5 := h.1
      have h := h.2
      refine lv_irem hx hb dX1_join_237 z_5 ?_
      refine lv_if_ne (tgt := 260) hx hb dX1_join_238 (by decide) (fun c_6 => ?_) (fun c_6 => ?_)
      · have h := h.1 c_6
        obtain ⟨x10_7, ex10_7⟩ : ∃ y : Int32, y = x10 + (1 : Int32) := ⟨_, rfl⟩
        have h := h x10_7 ex10_7
        refine lv_iinc (v := x10_7) (lv' := [(10, .int x10_7), (0, .ref (xad G (2 + 6 * q))), (1, .int x1), (2, .int x2), (3, .int x3), (4, .int x4), (5, .int x5), (6, .int x6), (7, .int x7), (8, .int x8), (9, .int x9), (11, .int x11), (12, .long y12)]) hx hb dX1_join_260 hl (k := 10) rfl (by rw [ex10_7]; rfl) (by decide) rfl (fun ls hl => ?_)
        refine lv_goto (tgt := 68) hx hb dX1_join_263 (by decide) ?_
        exact hR_68 x10_7 A L _ _ _ hw (lv_sub hl [1, 2, 3, 4, 5, 6, 7, 8, 9, 10, 0] rfl) h
      · have h := h.2 c_6
        refine lv_aload_n hx hb dX1_join_241 rfl (lv_at hl 0 rfl) ?_
        refine lv_iload_n hx hb dX1_join_242 rfl (lv_at hl 1 rfl) ?_
        refine lv_iload hx hb dX1_join_243 (lv_at hl 11 rfl) ?_
        refine lv_iload hx hb dX1_join_245 (lv_at hl 9 rfl) ?_
        have z_8 := h.1
        have h := h.2
        refine lv_idiv hx hb dX1_join_247 z_8 ?_
        refine lv_lload hx hb dX1_join_248 (lv_at hl 12 rfl) ?_
        refine lv_aload_n hx hb dX1_join_250 rfl (lv_at hl 0 rfl) ?_
        refine x_get (C := RX1) (T := TX1) (N := 8) hx hb hts inX1_join_X1 hown hG hw (xOh hq) rfl 0 (by decide) (hts (.fieldLink RX1 18 "SixNumbers$Heap" "rules" "LSixNumbers$Rules;") (List.mem_of_getElem? (i := 1) rfl)) (fun _ h9 => h9) (v := .ref (xad G 1)) (xf_h0 hq) dX1_join_251 ?_
        refine x_getN (C := RX3) (T := TX3) (N := 2) hx hb hts inX1_join_X3 hown hG hw xO1 rfl 1 (by decide) (va_Nw.use rfl (hG.2.2.2.1 _ (List.mem_of_getElem? (i := 3) rfl))) (fun _ h9 => h9) (v := .int (A 1 1)) rfl dX1_join_254 ?_
        refine x_callv hG hw (va_runV (As := [.int x1, .int (x11 / x9), .long y12, .int (A 1 1)]) (rest := []) ⟨hx, hb, hml, hown, hts⟩ (c_X1_add (l := l) (G := G) hq h) (cwV 4 hts gX1_join_X1_add rfl rfl rfl (by decide +kernel) ⟨Nat.le_of_ble_eq_true rfl, Nat.le_of_ble_eq_true rfl⟩) (x_preV hG hw (xOh hq) rfl) rfl rfl hl.1 rfl (lv_room (Nat.le_of_ble_eq_true rfl)) dX1_join_257 ⟨Nat.le_of_ble_eq_true rfl, Nat.le_of_ble_eq_true rfl⟩) (fun A_9 L_10 H locs hw h => ?_)
        obtain ⟨x10_11, ex10_11⟩ : ∃ y : Int32, y = x10 + (1 : Int32) := ⟨_, rfl⟩
        have h := h x10_11 ex10_11
        refine lv_iinc (v := x10_11) (lv' := [(10, .int x10_11), (0, .ref (xad G (2 + 6 * q))), (1, .int x1), (2, .int x2), (3, .int x3), (4, .int x4), (5, .int x5), (6, .int x6), (7, .int x7), (8, .int x8), (9, .int x9), (11, .int x11), (12, .long y12)]) hx hb dX1_join_260 hl (k := 10) rfl (by rw [ex10_11]; rfl) (by decide) rfl (fun ls hl => ?_)
        refine lv_goto (tgt := 68) hx hb dX1_join_263 (by decide) ?_
        exact hR_68 x10_11 A_9 L_10 _ _ _ hw (lv_sub hl [1, 2, 3, 4, 5, 6, 7, 8, 9, 10, 0] rfl) h
set_option maxHeartbeats 4000000 in
set_option maxRecDepth 100000 in
theorem t_X1_join_186 (C0 : xC p s m args meth c G cX1_join none wsX1_join RX1 14) {q : Nat} (hq : q < 2) {post : xM → xL → Prop} {x1 : Int32} {x2 : Int32} {x3 : Int32} {x4 : Int32} {x5 : Int32} {x6 : Int32} {x7 : Int32} {x8 : Int32} {x9 : Int32} {x10 : Int32} {x11 : Int32} {y12 : Int64} {A : xM} {L : xL} {R_43 : Int32 → xM → xL → Prop} (hR_43 : ∀ (x8 : Int32) (A : xM) (L : xL) (H : Heap) (locs : List Loc) (ls : Array Slot), xW G s.heap A L H locs → lv_has ls 14 [(0, .ref (xad G (2 + 6 * q))), (1, .int x1), (2, .int x2), (3, .int x3), (4, .int x4), (5, .int x5), (6, .int x6), (7, .int x7), (8, .int x8)] → R_43 x8 A L → W p l e rX1_join s m args below meth c H locs 0 0 (MQ below (xQv G post) args s 0 0 (xAf G)) (F0 m 43 ls [])) {R_68 : Int32 → xM → xL → Prop} (hR_68 : ∀ (x10 : Int32) (A : xM) (L : xL) (H : Heap) (locs : List Loc) (ls : Array Slot), xW G s.heap A L H locs → lv_has ls 14 [(0, .ref (xad G (2 + 6 * q))), (1, .int x1), (2, .int x2), (3, .int x3), (4, .int x4), (5, .int x5), (6, .int x6), (7, .int x7), (8, .int x8), (9, .int x9), (10, .int x10)] → R_68 x10 A L → W p l e rX1_join s m args below meth c H locs 0 0 (MQ below (xQv G post) args s 0 0 (xAf G)) (F0 m 68 ls [])) {H : Heap} {locs : List Loc} {ls : Array Slot} (hw : xW G s.heap A L H locs) (hl : lv_has ls 14 [(0, .ref (xad G (2 + 6 * q))), (1, .int x1), (2, .int x2), (3, .int x3), (4, .int x4), (5, .int x5), (6, .int x6), (7, .int x7), (8, .int x8), (9, .int x9), (10, .int x10), (11, .int x11), (12, .long y12)]) (h : v_X1_join_186 q x1 x2 x3 x4 x5 x6 x7 x8 x9 x10 x11 y12 A L R_43 R_68 post) : W p l e rX1_join s m args below meth c H locs 0 0 (MQ below (xQv G post) args s 0 0 (xAf G)) (F0 m 186 ls []) := by
  obtain ⟨hx, hb, hr, hts, hown, hml, hlocks, hG⟩ := id C0
  unfold v_X1_join_186 at h
  refine lv_iload hx hb dX1_join_186 (lv_at hl 7 rfl) ?_
  refine lv_if_eq (tgt := 223) hx hb dX1_join_188 (by decide) (fun c_1 => ?_) (fun c_1 => ?_)
  · have h := h.1 c_1
    exact t_X1_join_223 C0 hq hR_43 hR_68 hw (lv_sub hl [0, 1, 2, 3, 4, 5, 6, 7, 8, 9, 10, 11, 12] rfl) h
  · have h := h.2 c_1
    refine lv_iload hx hb dX1_join_191 (lv_at hl 11 rfl) ?_
    refine lv_if_le (tgt := 223) hx hb dX1_join_193 (by decide) (fun c_2 => ?_) (fun c_2 => ?_)
    · have h := h.1 c_2
      exact t_X1_join_223 C0 hq hR_43 hR_68 hw (lv_sub hl [0, 1, 2, 3, 4, 5, 6, 7, 8, 9, 10, 11, 12] rfl) h
    · have h := h.2 c_2
      refine lv_iload hx hb dX1_join_196 (lv_at hl 9 rfl) ?_
      refine lv_iload hx hb dX1_join_198 (lv_at hl 11 rfl) ?_
      have z_3 := h.1
      have h := h.2
      refine lv_irem hx hb dX1_join_200 z_3 ?_
      refine lv_if_ne (tgt := 223) hx hb dX1_join_201 (by decide) (fun c_4 => ?_) (fun c_4 => ?_)
      · have h := h.1 c_4
        exact t_X1_join_223 C0 hq hR_43 hR_68 hw (lv_sub hl [0, 1, 2, 3, 4, 5, 6, 7, 8, 9, 10, 11, 12] rfl) h
      · have h := h.2 c_4
        refine lv_aload_n hx hb dX1_join_204 rfl (lv_at hl 0 rfl) ?_
        refine lv_iload_n hx hb dX1_join_205 rfl (lv_at hl 1 rfl) ?_
        refine lv_iload hx hb dX1_join_206 (lv_at hl 9 rfl) ?_
        refine lv_iload hx hb dX1_join_208 (lv_at hl 11 rfl) ?_
        have z_5 := h.1
        have h := h.2
        refine lv_idiv hx hb dX1_join_210 z_5 ?_
        refine lv_lload hx hb dX1_join_211 (lv_at hl 12 rfl) ?_
        refine lv_aload_n hx hb dX1_join_213 rfl (lv_at hl 0 rfl) ?_
        refine x_get (C := RX1) (T := TX1) (N := 8) hx hb hts inX1_join_X1 hown hG hw (xOh hq) rfl 0 (by decide) (hts (.fieldLink RX1 18 "SixNumbers$Heap" "rules" "LSixNumbers$Rules;") (List.mem_of_getElem? (i := 1) rfl)) (fun _ h9 => h9) (v := .ref (xad G 1)) (xf_h0 hq) dX1_join_214 ?_
        refine x_getN (C := RX3) (T := TX3) (N := 2) hx hb hts inX1_join_X3 hown hG hw xO1 rfl 1 (by decide) (va_Nw.use rfl (hG.2.2.2.1 _ (List.mem_of_getElem? (i := 3) rfl))) (fun _ h9 => h9) (v := .int (A 1 1)) rfl dX1_join_217 ?_
        refine x_callv hG hw (va_runV (As := [.int x1, .int (x9 / x11), .long y12, .int (A 1 1)]) (rest := []) ⟨hx, hb, hml, hown, hts⟩ (c_X1_add (l := l) (G := G) hq h) (cwV 4 hts gX1_join_X1_add rfl rfl rfl (by decide +kernel) ⟨Nat.le_of_ble_eq_true rfl, Nat.le_of_ble_eq_true rfl⟩) (x_preV hG hw (xOh hq) rfl) rfl rfl hl.1 rfl (lv_room (Nat.le_of_ble_eq_true rfl)) dX1_join_220 ⟨Nat.le_of_ble_eq_true rfl, Nat.le_of_ble_eq_true rfl⟩) (fun A_6 L_7 H locs hw h => ?_)
        exact t_X1_join_223 C0 hq hR_43 hR_68 hw (lv_sub hl [0, 1, 2, 3, 4, 5, 6, 7, 8, 9, 10, 11, 12] rfl) h
set_option maxHeartbeats 4000000 in
set_option maxRecDepth 100000 in
theorem t_X1_join_162 (C0 : xC p s m args meth c G cX1_join none wsX1_join RX1 14) {q : Nat} (hq : q < 2) {post : xM → xL → Prop} {x1 : Int32} {x2 : Int32} {x3 : Int32} {x4 : Int32} {x5 : Int32} {x6 : Int32} {x7 : Int32} {x8 : Int32} {x9 : Int32} {x10 : Int32} {x11 : Int32} {y12 : Int64} {A : xM} {L : xL} {R_43 : Int32 → xM → xL → Prop} (hR_43 : ∀ (x8 : Int32) (A : xM) (L : xL) (H : Heap) (locs : List Loc) (ls : Array Slot), xW G s.heap A L H locs → lv_has ls 14 [(0, .ref (xad G (2 + 6 * q))), (1, .int x1), (2, .int x2), (3, .int x3), (4, .int x4), (5, .int x5), (6, .int x6), (7, .int x7), (8, .int x8)] → R_43 x8 A L → W p l e rX1_join s m args below meth c H locs 0 0 (MQ below (xQv G post) args s 0 0 (xAf G)) (F0 m 43 ls [])) {R_68 : Int32 → xM → xL → Prop} (hR_68 : ∀ (x10 : Int32) (A : xM) (L : xL) (H : Heap) (locs : List Loc) (ls : Array Slot), xW G s.heap A L H locs → lv_has ls 14 [(0, .ref (xad G (2 + 6 * q))), (1, .int x1), (2, .int x2), (3, .int x3), (4, .int x4), (5, .int x5), (6, .int x6), (7, .int x7), (8, .int x8), (9, .int x9), (10, .int x10)] → R_68 x10 A L → W p l e rX1_join s m args below meth c H locs 0 0 (MQ below (xQv G post) args s 0 0 (xAf G)) (F0 m 68 ls [])) {H : Heap} {locs : List Loc} {ls : Array Slot} (hw : xW G s.heap A L H locs) (hl : lv_has ls 14 [(0, .ref (xad G (2 + 6 * q))), (1, .int x1), (2, .int x2), (3, .int x3), (4, .int x4), (5, .int x5), (6, .int x6), (7, .int x7), (8, .int x8), (9, .int x9), (10, .int x10), (11, .int x11), (12, .long y12)]) (h : v_X1_join_162 q x1 x2 x3 x4 x5 x6 x7 x8 x9 x10 x11 y12 A L R_43 R_68 post) : W p l e rX1_join s m args below meth c H locs 0 0 (MQ below (xQv G post) args s 0 0 (xAf G)) (F0 m 162 ls []) := by
  obtain ⟨hx, hb, hr, hts, hown, hml, hlocks, hG⟩ := id C0
  unfold v_X1_join_162 at h
  refine lv_iload hx hb dX1_join_162 (lv_at hl 6 rfl) ?_
  refine lv_if_eq (tgt := 186) hx hb dX1_join_164 (by decide) (fun c_1 => ?_) (fun c_1 => ?_)
  · have h := h.1 c_1
    exact t_X1_join_186 C0 hq hR_43 hR_68 hw (lv_sub hl [0, 1, 2, 3, 4, 5, 6, 7, 8, 9, 10, 11, 12] rfl) h
  · have h := h.2 c_1
    refine lv_aload_n hx hb dX1_join_167 rfl (lv_at hl 0 rfl) ?_
    refine lv_iload_n hx hb dX1_join_168 rfl (lv_at hl 1 rfl) ?_
    refine lv_iload hx hb dX1_join_169 (lv_at hl 9 rfl) ?_
    refine lv_iload hx hb dX1_join_171 (lv_at hl 11 rfl) ?_
    refine lv_imul hx hb dX1_join_173 ?_
    refine lv_lload hx hb dX1_join_174 (lv_at hl 12 rfl) ?_
    refine lv_aload_n hx hb dX1_join_176 rfl (lv_at hl 0 rfl) ?_
    refine x_get (C := RX1) (T := TX1) (N := 8) hx hb hts inX1_join_X1 hown hG hw (xOh hq) rfl 0 (by decide) (hts (.fieldLink RX1 18 "SixNumbers$Heap" "rules" "LSixNumbers$Rules;") (List.mem_of_getElem? (i := 1) rfl)) (fun _ h9 => h9) (v := .ref (xad G 1)) (xf_h0 hq) dX1_join_177 ?_
    refine x_getN (C := RX3) (T := TX3) (N := 2) hx hb hts inX1_join_X3 hown hG hw xO1 rfl 1 (by decide) (va_Nw.use rfl (hG.2.2.2.1 _ (List.mem_of_getElem? (i := 3) rfl))) (fun _ h9 => h9) (v := .int (A 1 1)) rfl dX1_join_180 ?_
    refine x_callv hG hw (va_runV (As := [.int x1, .int (x9 * x11), .long y12, .int (A 1 1)]) (rest := []) ⟨hx, hb, hml, hown, hts⟩ (c_X1_add (l := l) (G := G) hq h) (cwV 4 hts gX1_join_X1_add rfl rfl rfl (by decide +kernel) ⟨Nat.le_of_ble_eq_true rfl, Nat.le_of_ble_eq_true rfl⟩) (x_preV hG hw (xOh hq) rfl) rfl rfl hl.1 rfl (lv_room (Nat.le_of_ble_eq_true rfl)) dX1_join_183 ⟨Nat.le_of_ble_eq_true rfl, Nat.le_of_ble_eq_true rfl⟩) (fun A_2 L_3 H locs hw h => ?_)
    exact t_X1_join_186 C0 hq hR_43 hR_68 hw (lv_sub hl [0, 1, 2, 3, 4, 5, 6, 7, 8, 9, 10, 11, 12] rfl) h
set_option maxHeartbeats 4000000 in
set_option maxRecDepth 100000 in
theorem t_X1_join_135 (C0 : xC p s m args meth c G cX1_join none wsX1_join RX1 14) {q : Nat} (hq : q < 2) {post : xM → xL → Prop} {x1 : Int32} {x2 : Int32} {x3 : Int32} {x4 : Int32} {x5 : Int32} {x6 : Int32} {x7 : Int32} {x8 : Int32} {x9 : Int32} {x10 : Int32} {x11 : Int32} {y12 : Int64} {A : xM} {L : xL} {R_43 : Int32 → xM → xL → Prop} (hR_43 : ∀ (x8 : Int32) (A : xM) (L : xL) (H : Heap) (locs : List Loc) (ls : Array Slot), xW G s.heap A L H locs → lv_has ls 14 [(0, .ref (xad G (2 + 6 * q))), (1, .int x1), (2, .int x2), (3, .int x3), (4, .int x4), (5, .int x5), (6, .int x6), (7, .int x7), (8, .int x8)] → R_43 x8 A L → W p l e rX1_join s m args below meth c H locs 0 0 (MQ below (xQv G post) args s 0 0 (xAf G)) (F0 m 43 ls [])) {R_68 : Int32 → xM → xL → Prop} (hR_68 : ∀ (x10 : Int32) (A : xM) (L : xL) (H : Heap) (locs : List Loc) (ls : Array Slot), xW G s.heap A L H locs → lv_has ls 14 [(0, .ref (xad G (2 + 6 * q))), (1, .int x1), (2, .int x2), (3, .int x3), (4, .int x4), (5, .int x5), (6, .int x6), (7, .int x7), (8, .int x8), (9, .int x9), (10, .int x10)] → R_68 x10 A L → W p l e rX1_join s m args below meth c H locs 0 0 (MQ below (xQv G post) args s 0 0 (xAf G)) (F0 m 68 ls [])) {H : Heap} {locs : List Loc} {ls : Array Slot} (hw : xW G s.heap A L H locs) (hl : lv_has ls 14 [(0, .ref (xad G (2 + 6 * q))), (1, .int x1), (2, .int x2), (3, .int x3), (4, .int x4), (5, .int x5), (6, .int x6), (7, .int x7), (8, .int x8), (9, .int x9), (10, .int x10), (11, .int x11), (12, .long y12)]) (h : v_X1_join_135 q x1 x2 x3 x4 x5 x6 x7 x8 x9 x10 x11 y12 A L R_43 R_68 post) : W p l e rX1_join s m args below meth c H locs 0 0 (MQ below (xQv G post) args s 0 0 (xAf G)) (F0 m 135 ls []) := by
  obtain ⟨hx, hb, hr, hts, hown, hml, hlocks, hG⟩ := id C0
  unfold v_X1_join_135 at h
  refine lv_iload hx hb dX1_join_135 (lv_at hl 5 rfl) ?_
  refine lv_if_eq (tgt := 162) hx hb dX1_join_137 (by decide) (fun c_1 => ?_) (fun c_1 => ?_)
  · have h := h.1 c_1
    exact t_X1_join_162 C0 hq hR_43 hR_68 hw (lv_sub hl [0, 1, 2, 3, 4, 5, 6, 7, 8, 9, 10, 11, 12] rfl) h
  · have h := h.2 c_1
    refine lv_aload_n hx hb dX1_join_140 rfl (lv_at hl 0 rfl) ?_
    refine lv_iload_n hx hb dX1_join_141 rfl (lv_at hl 1 rfl) ?_
    refine lv_iload hx hb dX1_join_142 (lv_at hl 9 rfl) ?_
    refine lv_iload hx hb dX1_join_144 (lv_at hl 11 rfl) ?_
    refine lv_isub hx hb dX1_join_146 ?_
    refine va_mabs hx hb (hml.trans hl.1.symm) hown (hts _ (List.mem_of_getElem? (i := 5) rfl)) (hts _ (List.mem_of_getElem? (i := 6) rfl)) (hts _ (List.mem_of_getElem? (i := 7) rfl)) (hts _ (List.mem_of_getElem? (i := 8) rfl)) (Nat.le_of_ble_eq_true rfl) (Nat.le_of_ble_eq_true rfl) (Nat.le_of_ble_eq_true rfl) (Nat.le_of_ble_eq_true rfl) dX1_join_147 ?_
    refine lv_lload hx hb dX1_join_150 (lv_at hl 12 rfl) ?_
    refine lv_aload_n hx hb dX1_join_152 rfl (lv_at hl 0 rfl) ?_
    refine x_get (C := RX1) (T := TX1) (N := 8) hx hb hts inX1_join_X1 hown hG hw (xOh hq) rfl 0 (by decide) (hts (.fieldLink RX1 18 "SixNumbers$Heap" "rules" "LSixNumbers$Rules;") (List.mem_of_getElem? (i := 1) rfl)) (fun _ h9 => h9) (v := .ref (xad G 1)) (xf_h0 hq) dX1_join_153 ?_
    refine x_getN (C := RX3) (T := TX3) (N := 2) hx hb hts inX1_join_X3 hown hG hw xO1 rfl 1 (by decide) (va_Nw.use rfl (hG.2.2.2.1 _ (List.mem_of_getElem? (i := 3) rfl))) (fun _ h9 => h9) (v := .int (A 1 1)) rfl dX1_join_156 ?_
    refine x_callv hG hw (va_runV (As := [.int x1, .int (if 0 ≤ (x9 - x11) then (x9 - x11) else 0 - (x9 - x11)), .long y12, .int (A 1 1)]) (rest := []) ⟨hx, hb, hml, hown, hts⟩ (c_X1_add (l := l) (G := G) hq h) (cwV 4 hts gX1_join_X1_add rfl rfl rfl (by decide +kernel) ⟨Nat.le_of_ble_eq_true rfl, Nat.le_of_ble_eq_true rfl⟩) (x_preV hG hw (xOh hq) rfl) rfl rfl hl.1 rfl (lv_room (Nat.le_of_ble_eq_true rfl)) dX1_join_159 ⟨Nat.le_of_ble_eq_true rfl, Nat.le_of_ble_eq_true rfl⟩) (fun A_2 L_3 H locs hw h => ?_)
    exact t_X1_join_162 C0 hq hR_43 hR_68 hw (lv_sub hl [0, 1, 2, 3, 4, 5, 6, 7, 8, 9, 10, 11, 12] rfl) h
set_option maxHeartbeats 4000000 in
set_option maxRecDepth 100000 in
theorem t_X1_join_68 (C0 : xC p s m args meth c G cX1_join none wsX1_join RX1 14) {q : Nat} (hq : q < 2) {post : xM → xL → Prop} {x1 : Int32} {x2 : Int32} {x3 : Int32} {x4 : Int32} {x5 : Int32} {x6 : Int32} {x7 : Int32} {x8 : Int32} {x9 : Int32} {R_43 : Int32 → xM → xL → Prop} (hR_43 : ∀ (x8 : Int32) (A : xM) (L : xL) (H : Heap) (locs : List Loc) (ls : Array Slot), xW G s.heap A L H locs → lv_has ls 14 [(0, .ref (xad G (2 + 6 * q))), (1, .int x1), (2, .int x2), (3, .int x3), (4, .int x4), (5, .int x5), (6, .int x6), (7, .int x7), (8, .int x8)] → R_43 x8 A L → W p l e rX1_join s m args below meth c H locs 0 0 (MQ below (xQv G post) args s 0 0 (xAf G)) (F0 m 43 ls [])) : ∀ (n : Nat) (x10 : Int32) (A : xM) (L : xL) (H : Heap) (locs : List Loc) (ls : Array Slot), xW G s.heap A L H locs → lv_has ls 14 [(0, .ref (xad G (2 + 6 * q))), (1, .int x1), (2, .int x2), (3, .int x3), (4, .int x4), (5, .int x5), (6, .int x6), (7, .int x7), (8, .int x8), (9, .int x9), (10, .int x10)] → v_X1_join_68 q x1 x2 x3 x4 x5 x6 x7 x8 x9 R_43 post n x10 A L → W p l e rX1_join s m args below meth c H locs 0 0 (MQ below (xQv G post) args s 0 0 (xAf G)) (F0 m 68 ls []) := by
  obtain ⟨hx, hb, hr, hts, hown, hml, hlocks, hG⟩ := id C0
  intro n
  induction n with
  | zero => intro x10 A L H locs ls hw hl h; exact (show False from h).elim
  | succ n ih =>
    intro x10 A L H locs ls hw hl h
    unfold v_X1_join_68 at h
    refine lv_iload hx hb dX1_join_68 (lv_at hl 10 rfl) ?_
    refine lv_aload_n hx hb dX1_join_70 rfl (lv_at hl 0 rfl) ?_
    refine x_get (C := RX1) (T := TX1) (N := 8) hx hb hts inX1_join_X1 hown hG hw (xOh hq) rfl 4 (by decide) (hts (.fieldLink RX1 36 "SixNumbers$Heap" "founds" "[I") (List.mem_of_getElem? (i := 2) rfl)) (fun _ h9 => h9) (v := .ref (xad G (6 + 6 * q))) (xf_h4 hq) dX1_join_71 ?_
    refine lv_iload_n hx hb dX1_join_74 rfl (lv_at hl 3 rfl) ?_
    have i_1 := h.1
    have h := h.2
    refine x_iald hx hb hG hw (xhN hq) i_1 dX1_join_75 ?_
    refine lv_icmp_ge (tgt := 266) hx hb dX1_join_76 (by decide) (fun c_2 => ?_) (fun c_2 => ?_)
    · have h := h.1 c_2
      obtain ⟨x8_3, ex8_3⟩ : ∃ y : Int32, y = x8 + (1 : Int32) := ⟨_, rfl⟩
      have h := h x8_3 ex8_3
      refine lv_iinc (v := x8_3) (lv' := [(8, .int x8_3), (0, .ref (xad G (2 + 6 * q))), (1, .int x1), (2, .int x2), (3, .int x3), (4, .int x4), (5, .int x5), (6, .int x6), (7, .int x7), (9, .int x9), (10, .int x10)]) hx hb dX1_join_266 hl (k := 8) rfl (by rw [ex8_3]; rfl) (by decide) rfl (fun ls hl => ?_)
      refine lv_goto (tgt := 43) hx hb dX1_join_269 (by decide) ?_
      exact hR_43 x8_3 A L _ _ _ hw (lv_sub hl [1, 2, 3, 4, 5, 6, 7, 8, 0] rfl) h
    · have h := h.2 c_2
      refine lv_aload_n hx hb dX1_join_79 rfl (lv_at hl 0 rfl) ?_
      refine x_get (C := RX1) (T := TX1) (N := 8) hx hb hts inX1_join_X1 hown hG hw (xOh hq) rfl 3 (by decide) (hts (.fieldLink RX1 33 "SixNumbers$Heap" "found" "[[I") (List.mem_of_getElem? (i := 3) rfl)) (fun _ h9 => h9) (v := .ref (xad G (5 + 6 * q))) (xf_h3 hq) dX1_join_80 ?_
      refine lv_iload_n hx hb dX1_join_83 rfl (lv_at hl 3 rfl) ?_
      refine x_aald hx hb hG hw (xhF hq) .int rfl i_1 dX1_join_84 ?_
      refine lv_iload hx hb dX1_join_85 (lv_at hl 10 rfl) ?_
      have i_4 := h.1
      have h := h.2
      refine x_iald hx hb hG hw (xrF hq i_1) i_4 dX1_join_87 ?_
      refine lv_topi (fun x11_5 ex11_5 => ?_)
      have h := h x11_5 ex11_5
      refine lv_istore (lv' := [(11, .int x11_5), (0, .ref (xad G (2 + 6 * q))), (1, .int x1), (2, .int x2), (3, .int x3), (4, .int x4), (5, .int x5), (6, .int x6), (7, .int x7), (8, .int x8), (9, .int x9), (10, .int x10)]) hx hb dX1_join_88 hl (by decide) rfl (fun ls hl => ?_)
      refine lv_aload_n hx hb dX1_join_90 rfl (lv_at hl 1 rfl) ?_
      refine x_get (C := RX1) (T := TX1) (N := 8) hx hb hts inX1_join_X1 hown hG hw (xOh hq) rfl 2 (by decide) (hts (.fieldLink RX1 28 "SixNumbers$Heap" "counts" "[[J") (List.mem_of_getElem? (i := 4) rfl)) (fun _ h9 => h9) (v := .ref (xad G (4 + 6 * q))) (xf_h2 hq) dX1_join_91 ?_
      refine lv_iload_n hx hb dX1_join_94 rfl (lv_at hl 3 rfl) ?_
      have i_6 := h.1
      have h := h.2
      refine x_aald hx hb hG hw (xhC hq) .long rfl i_6 dX1_join_95 ?_
      refine lv_iload hx hb dX1_join_96 (lv_at hl 10 rfl) ?_
      have i_7 := h.1
      have h := h.2
      refine x_lald hx hb hG hw (xrC hq i_6) i_7 dX1_join_98 ?_
      refine lv_aload_n hx hb dX1_join_99 rfl (lv_at hl 1 rfl) ?_
      refine x_get (C := RX1) (T := TX1) (N := 8) hx hb hts inX1_join_X1 hown hG hw (xOh hq) rfl 2 (by decide) (hts (.fieldLink RX1 28 "SixNumbers$Heap" "counts" "[[J") (List.mem_of_getElem? (i := 4) rfl)) (fun _ h9 => h9) (v := .ref (xad G (4 + 6 * q))) (xf_h2 hq) dX1_join_100 ?_
      refine lv_iload_n hx hb dX1_join_103 rfl (lv_at hl 4 rfl) ?_
      refine x_aald hx hb hG hw (xhC hq) .long rfl i_1 dX1_join_104 ?_
      refine lv_iload hx hb dX1_join_105 (lv_at hl 0 rfl) ?_
      have i_8 := h.1
      have h := h.2
      refine x_lald hx hb hG hw (xrC hq i_1) i_8 dX1_join_107 ?_
      refine lv_lmul hx hb dX1_join_108 ?_
      refine lv_topl (fun y12_9 ey12_9 => ?_)
      have h := h y12_9 ey12_9
      refine lv_lstore (lv' := [(12, .long y12_9), (11, .int x11_5), (0, .ref (xad G (2 + 6 * q))), (1, .int x1), (2, .int x2), (3, .int x3), (4, .int x4), (5, .int x5), (6, .int x6), (7, .int x7), (8, .int x8), (9, .int x9), (10, .int x10)]) hx hb dX1_join_109 hl (by decide) rfl (fun ls hl => ?_)
      refine lv_iload hx hb dX1_join_111 (lv_at hl 6 rfl) ?_
      refine lv_if_eq (tgt := 135) hx hb dX1_join_113 (by decide) (fun c_10 => ?_) (fun c_10 => ?_)
      · have h := h.1 c_10
        exact t_X1_join_135 C0 hq hR_43 ih hw (lv_sub hl [2, 3, 4, 5, 6, 7, 8, 9, 10, 11, 12, 1, 0] rfl) h
      · have h := h.2 c_10
        refine lv_aload_n hx hb dX1_join_116 rfl (lv_at hl 2 rfl) ?_
        refine lv_iload_n hx hb dX1_join_117 rfl (lv_at hl 3 rfl) ?_
        refine lv_iload hx hb dX1_join_118 (lv_at hl 11 rfl) ?_
        refine lv_iload hx hb dX1_join_120 (lv_at hl 1 rfl) ?_
        refine lv_iadd hx hb dX1_join_122 ?_
        refine lv_lload hx hb dX1_join_123 (lv_at hl 0 rfl) ?_
        refine lv_aload_n hx hb dX1_join_125 rfl (lv_at hl 2 rfl) ?_
        refine x_get (C := RX1) (T := TX1) (N := 8) hx hb hts inX1_join_X1 hown hG hw (xOh hq) rfl 0 (by decide) (hts (.fieldLink RX1 18 "SixNumbers$Heap" "rules" "LSixNumbers$Rules;") (List.mem_of_getElem? (i := 1) rfl)) (fun _ h9 => h9) (v := .ref (xad G 1)) (xf_h0 hq) dX1_join_126 ?_
        refine x_getN (C := RX3) (T := TX3) (N := 2) hx hb hts inX1_join_X3 hown hG hw xO1 rfl 1 (by decide) (va_Nw.use rfl (hG.2.2.2.1 _ (List.mem_of_getElem? (i := 3) rfl))) (fun _ h9 => h9) (v := .int (A 1 1)) rfl dX1_join_129 ?_
        refine x_callv hG hw (va_runV (As := [.int x1, .int (x9 + x11_5), .long y12_9, .int (A 1 1)]) (rest := []) ⟨hx, hb, hml, hown, hts⟩ (c_X1_add (l := l) (G := G) hq h) (cwV 4 hts gX1_join_X1_add rfl rfl rfl (by decide +kernel) ⟨Nat.le_of_ble_eq_true rfl, Nat.le_of_ble_eq_true rfl⟩) (x_preV hG hw (xOh hq) rfl) rfl rfl hl.1 rfl (lv_room (Nat.le_of_ble_eq_true rfl)) dX1_join_132 ⟨Nat.le_of_ble_eq_true rfl, Nat.le_of_ble_eq_true rfl⟩) (fun A_11 L_12 H locs hw h => ?_)
        exact t_X1_join_135 C0 hq hR_43 ih hw (lv_sub hl [2, 3, 4, 5, 6, 7, 8, 9, 10, 11, 12, 1, 0] rfl) h
set_option maxHeartbeats 4000000 in
set_option maxRecDepth 100000 in
theorem t_X1_join_43 (C0 : xC p s m args meth c G cX1_join none wsX1_join RX1 14) {q : Nat} (hq : q < 2) {post : xM → xL → Prop} {x1 : Int32} {x2 : Int32} {x3 : Int32} {x4 : Int32} {x5 : Int32} {x6 : Int32} {x7 : Int32} : ∀ (n : Nat) (x8 : Int32) (A : xM) (L : xL) (H : Heap) (locs : List Loc) (ls : Array Slot), xW G s.heap A L H locs → lv_has ls 14 [(0, .ref (xad G (2 + 6 * q))), (1, .int x1), (2, .int x2), (3, .int x3), (4, .int x4), (5, .int x5), (6, .int x6), (7, .int x7), (8, .int x8)] → v_X1_join_43 q x1 x2 x3 x4 x5 x6 x7 post n x8 A L → W p l e rX1_join s m args below meth c H locs 0 0 (MQ below (xQv G post) args s 0 0 (xAf G)) (F0 m 43 ls []) := by
  obtain ⟨hx, hb, hr, hts, hown, hml, hlocks, hG⟩ := id C0
  intro n
  induction n with
  | zero => intro x8 A L H locs ls hw hl h; exact (show False from h).elim
  | succ n ih =>
    intro x8 A L H locs ls hw hl h
    unfold v_X1_join_43 at h
    refine lv_iload hx hb dX1_join_43 (lv_at hl 8 rfl) ?_
    refine lv_aload_n hx hb dX1_join_45 rfl (lv_at hl 0 rfl) ?_
    refine x_get (C := RX1) (T := TX1) (N := 8) hx hb hts inX1_join_X1 hown hG hw (xOh hq) rfl 4 (by decide) (hts (.fieldLink RX1 36 "SixNumbers$Heap" "founds" "[I") (List.mem_of_getElem? (i := 2) rfl)) (fun _ h9 => h9) (v := .ref (xad G (6 + 6 * q))) (xf_h4 hq) dX1_join_46 ?_
    refine lv_iload_n hx hb dX1_join_49 rfl (lv_at hl 2 rfl) ?_
    have i_1 := h.1
    have h := h.2
    refine x_iald hx hb hG hw (xhN hq) i_1 dX1_join_50 ?_
    refine lv_icmp_ge (tgt := 272) hx hb dX1_join_51 (by decide) (fun c_2 => ?_) (fun c_2 => ?_)
    · have h := h.1 c_2
      exact x_vret hx hb hr hlocks hG hw h dX1_join_272
    · have h := h.2 c_2
      refine lv_aload_n hx hb dX1_join_54 rfl (lv_at hl 0 rfl) ?_
      refine x_get (C := RX1) (T := TX1) (N := 8) hx hb hts inX1_join_X1 hown hG hw (xOh hq) rfl 3 (by decide) (hts (.fieldLink RX1 33 "SixNumbers$Heap" "found" "[[I") (List.mem_of_getElem? (i := 3) rfl)) (fun _ h9 => h9) (v := .ref (xad G (5 + 6 * q))) (xf_h3 hq) dX1_join_55 ?_
      refine lv_iload_n hx hb dX1_join_58 rfl (lv_at hl 2 rfl) ?_
      refine x_aald hx hb hG hw (xhF hq) .int rfl i_1 dX1_join_59 ?_
      refine lv_iload hx hb dX1_join_60 (lv_at hl 8 rfl) ?_
      have i_3 := h.1
      have h := h.2
      refine x_iald hx hb hG hw (xrF hq i_1) i_3 dX1_join_62 ?_
      refine lv_topi (fun x9_4 ex9_4 => ?_)
      have h := h x9_4 ex9_4
      refine lv_istore (lv' := [(9, .int x9_4), (0, .ref (xad G (2 + 6 * q))), (1, .int x1), (2, .int x2), (3, .int x3), (4, .int x4), (5, .int x5), (6, .int x6), (7, .int x7), (8, .int x8)]) hx hb dX1_join_63 hl (by decide) rfl (fun ls hl => ?_)
      refine lv_iconst (v := 0) hx hb dX1_join_65 (by decide) ?_
      refine lv_istore (lv' := [(10, .int (0 : Int32)), (9, .int x9_4), (0, .ref (xad G (2 + 6 * q))), (1, .int x1), (2, .int x2), (3, .int x3), (4, .int x4), (5, .int x5), (6, .int x6), (7, .int x7), (8, .int x8)]) hx hb dX1_join_66 hl (by decide) rfl (fun ls hl => ?_)
      obtain ⟨n9, h⟩ := h
      exact t_X1_join_68 C0 hq ih n9 (0 : Int32) A L _ _ _ hw (lv_sub hl [2, 3, 4, 5, 6, 7, 8, 9, 10, 1, 0] rfl) h
set_option maxHeartbeats 4000000 in
set_option maxRecDepth 100000 in
theorem t_X1_join_0 (C0 : xC p s m args meth c G cX1_join none wsX1_join RX1 14) {q : Nat} (hq : q < 2) {post : xM → xL → Prop} {x1 : Int32} {x2 : Int32} {x3 : Int32} {A : xM} {L : xL} {H : Heap} {locs : List Loc} {ls : Array Slot} (hw : xW G s.heap A L H locs) (hl : lv_has ls 14 [(0, .ref (xad G (2 + 6 * q))), (1, .int x1), (2, .int x2), (3, .int x3)]) (h : v_X1_join q x1 x2 x3 A L post) : W p l e rX1_join s m args below meth c H locs 0 0 (MQ below (xQv G post) args s 0 0 (xAf G)) (F0 m 0 ls []) := by
  obtain ⟨hx, hb, hr, hts, hown, hml, hlocks, hG⟩ := id C0
  unfold v_X1_join at h
  refine lv_aload_n hx hb dX1_join_0 rfl (lv_at hl 0 rfl) ?_
  refine x_get (C := RX1) (T := TX1) (N := 8) hx hb hts inX1_join_X1 hown hG hw (xOh hq) rfl 0 (by decide) (hts (.fieldLink RX1 18 "SixNumbers$Heap" "rules" "LSixNumbers$Rules;") (List.mem_of_getElem? (i := 1) rfl)) (fun _ h9 => h9) (v := .ref (xad G 1)) (xf_h0 hq) dX1_join_1 ?_
  refine lv_iconst (v := 0) hx hb dX1_join_4 (by decide) ?_
  refine x_calli hG hw (va_runV (As := [.int (0 : Int32)]) (rest := []) ⟨hx, hb, hml, hown, hts⟩ (c_X3_allow (l := l) (G := G) h) (cwV 1 hts gX1_join_X3_allow rfl rfl rfl (by decide +kernel) ⟨Nat.le_of_ble_eq_true rfl, Nat.le_of_ble_eq_true rfl⟩) (x_preV hG hw xO1 rfl) rfl rfl hl.1 rfl (lv_room (Nat.le_of_ble_eq_true rfl)) dX1_join_5 ⟨Nat.le_of_ble_eq_true rfl, Nat.le_of_ble_eq_true rfl⟩) (fun r_1 A9 L9 H locs hw h => ?_)
  rw [h.2.1, h.2.2] at hw
  have h := h.1
  refine lv_istore (lv' := [(4, .int r_1), (0, .ref (xad G (2 + 6 * q))), (1, .int x1), (2, .int x2), (3, .int x3)]) hx hb dX1_join_8 hl (by decide) rfl (fun ls hl => ?_)
  refine lv_aload_n hx hb dX1_join_10 rfl (lv_at hl 1 rfl) ?_
  refine x_get (C := RX1) (T := TX1) (N := 8) hx hb hts inX1_join_X1 hown hG hw (xOh hq) rfl 0 (by decide) (hts (.fieldLink RX1 18 "SixNumbers$Heap" "rules" "LSixNumbers$Rules;") (List.mem_of_getElem? (i := 1) rfl)) (fun _ h9 => h9) (v := .ref (xad G 1)) (xf_h0 hq) dX1_join_11 ?_
  refine lv_iconst (v := 1) hx hb dX1_join_14 (by decide) ?_
  refine x_calli hG hw (va_runV (As := [.int (1 : Int32)]) (rest := []) ⟨hx, hb, hml, hown, hts⟩ (c_X3_allow (l := l) (G := G) h) (cwV 1 hts gX1_join_X3_allow rfl rfl rfl (by decide +kernel) ⟨Nat.le_of_ble_eq_true rfl, Nat.le_of_ble_eq_true rfl⟩) (x_preV hG hw xO1 rfl) rfl rfl hl.1 rfl (lv_room (Nat.le_of_ble_eq_true rfl)) dX1_join_15 ⟨Nat.le_of_ble_eq_true rfl, Nat.le_of_ble_eq_true rfl⟩) (fun r_2 A9 L9 H locs hw h => ?_)
  rw [h.2.1, h.2.2] at hw
  have h := h.1
  refine lv_istore (lv' := [(5, .int r_2), (4, .int r_1), (0, .ref (xad G (2 + 6 * q))), (1, .int x1), (2, .int x2), (3, .int x3)]) hx hb dX1_join_18 hl (by decide) rfl (fun ls hl => ?_)
  refine lv_aload_n hx hb dX1_join_20 rfl (lv_at hl 2 rfl) ?_
  refine x_get (C := RX1) (T := TX1) (N := 8) hx hb hts inX1_join_X1 hown hG hw (xOh hq) rfl 0 (by decide) (hts (.fieldLink RX1 18 "SixNumbers$Heap" "rules" "LSixNumbers$Rules;") (List.mem_of_getElem? (i := 1) rfl)) (fun _ h9 => h9) (v := .ref (xad G 1)) (xf_h0 hq) dX1_join_21 ?_
  refine lv_iconst (v := 2) hx hb dX1_join_24 (by decide) ?_
  refine x_calli hG hw (va_runV (As := [.int (2 : Int32)]) (rest := []) ⟨hx, hb, hml, hown, hts⟩ (c_X3_allow (l := l) (G := G) h) (cwV 1 hts gX1_join_X3_allow rfl rfl rfl (by decide +kernel) ⟨Nat.le_of_ble_eq_true rfl, Nat.le_of_ble_eq_true rfl⟩) (x_preV hG hw xO1 rfl) rfl rfl hl.1 rfl (lv_room (Nat.le_of_ble_eq_true rfl)) dX1_join_25 ⟨Nat.le_of_ble_eq_true rfl, Nat.le_of_ble_eq_true rfl⟩) (fun r_3 A9 L9 H locs hw h => ?_)
  rw [h.2.1, h.2.2] at hw
  have h := h.1
  refine lv_istore (lv' := [(6, .int r_3), (5, .int r_2), (4, .int r_1), (0, .ref (xad G (2 + 6 * q))), (1, .int x1), (2, .int x2), (3, .int x3)]) hx hb dX1_join_28 hl (by decide) rfl (fun ls hl => ?_)
  refine lv_aload_n hx hb dX1_join_30 rfl (lv_at hl 3 rfl) ?_
  refine x_get (C := RX1) (T := TX1) (N := 8) hx hb hts inX1_join_X1 hown hG hw (xOh hq) rfl 0 (by decide) (hts (.fieldLink RX1 18 "SixNumbers$Heap" "rules" "LSixNumbers$Rules;") (List.mem_of_getElem? (i := 1) rfl)) (fun _ h9 => h9) (v := .ref (xad G 1)) (xf_h0 hq) dX1_join_31 ?_
  refine lv_iconst (v := 3) hx hb dX1_join_34 (by decide) ?_
  refine x_calli hG hw (va_runV (As := [.int (3 : Int32)]) (rest := []) ⟨hx, hb, hml, hown, hts⟩ (c_X3_allow (l := l) (G := G) h) (cwV 1 hts gX1_join_X3_allow rfl rfl rfl (by decide +kernel) ⟨Nat.le_of_ble_eq_true rfl, Nat.le_of_ble_eq_true rfl⟩) (x_preV hG hw xO1 rfl) rfl rfl hl.1 rfl (lv_room (Nat.le_of_ble_eq_true rfl)) dX1_join_35 ⟨Nat.le_of_ble_eq_true rfl, Nat.le_of_ble_eq_true rfl⟩) (fun r_4 A9 L9 H locs hw h => ?_)
  rw [h.2.1, h.2.2] at hw
  have h := h.1
  refine lv_istore (lv' := [(7, .int r_4), (6, .int r_3), (5, .int r_2), (4, .int r_1), (0, .ref (xad G (2 + 6 * q))), (1, .int x1), (2, .int x2), (3, .int x3)]) hx hb dX1_join_38 hl (by decide) rfl (fun ls hl => ?_)
  refine lv_iconst (v := 0) hx hb dX1_join_40 (by decide) ?_
  refine lv_istore (lv' := [(8, .int (0 : Int32)), (7, .int r_4), (6, .int r_3), (5, .int r_2), (4, .int r_1), (0, .ref (xad G (2 + 6 * q))), (1, .int x1), (2, .int x2), (3, .int x3)]) hx hb dX1_join_41 hl (by decide) rfl (fun ls hl => ?_)
  obtain ⟨n9, h⟩ := h
  exact t_X1_join_43 C0 hq n9 (0 : Int32) A L _ _ _ hw (lv_sub hl [5, 6, 7, 8, 4, 3, 2, 1, 0] rfl) h
theorem c_X1_join {l : Launch} {G : xGt} {q : Nat} (hq : q < 2) {x1 : Int32} {x2 : Int32} {x3 : Int32} {A : xM} {L : xL} {post : xM → xL → Prop} (h : v_X1_join q x1 x2 x3 A L post) : Met l yX1_join wsX1_join rX1_join (va_Pc [.ref (xad G (2 + 6 * q)), .int x1, .int x2, .int x3] (xPre G A L)) (xQv G post) 0 0 (xAf G) :=
  x_met RX1 rfl (by decide) rfl (Nat.le_of_ble_eq_true rfl) (fun p e s m below meth c ls C0 hw hl => t_X1_join_0 C0 hq hw hl h)
end MECH
