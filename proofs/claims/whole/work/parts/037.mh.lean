def v_X5_writeFirstWay_34 (REC : Int32 → Int32 → Int32 → xM → xL → (xM → xL → Prop) → Prop) (x2 : Int32) (x3 : Int32) (x4 : Int32) (x5 : Int32) (R_25 : Int32 → xM → xL → Prop) (post : xM → xL → Prop) : Nat → Int32 → xM → xL → Prop
  | 0, _, _, _ => False
  | n + 1, x6, A, L => ((4 : Int32) ≤ x6 → (∀ x5_2 : Int32, x5_2 = x5 + (1 : Int32) → (R_25 x5_2 A L))) ∧ (¬ (4 : Int32) ≤ x6 → (v_X1_leastLeftNumber 0 x2 x5 x6 x3 A L (fun (r_3 : Int32) => ((r_3 = (-1 : Int32) → (∀ x6_5 : Int32, x6_5 = x6 + (1 : Int32) → (v_X5_writeFirstWay_34 REC x2 x3 x4 x5 R_25 post n x6_5 A L))) ∧ (¬ r_3 = (-1 : Int32) → (v_X2_add (40 : Int32) A L (fun (A_6 : xM) (L_7 : xL) => (REC x5 r_3 (x4 + (1 : Int32)) A_6 L_7 (fun (A_8 : xM) (L_9 : xL) => (vp_in x6 4 ∧ (v_X2_add (xmc x6) A_8 L_9 (fun (A_11 : xM) (L_12 : xL) => (v_X5_rightNumber x6 r_3 x3 (fun (r_13 : Int32) => (REC (x2 ^^^ x5) r_13 (x4 + (1 : Int32)) A_11 L_12 (fun (A_14 : xM) (L_15 : xL) => (v_X2_add (41 : Int32) A_14 L_15 (fun (A_16 : xM) (L_17 : xL) => (post A_16 L_17)))))))))))))))))))
def v_X5_writeFirstWay_25 (REC : Int32 → Int32 → Int32 → xM → xL → (xM → xL → Prop) → Prop) (x2 : Int32) (x3 : Int32) (x4 : Int32) (post : xM → xL → Prop) : Nat → Int32 → xM → xL → Prop
  | 0, _, _, _ => False
  | n + 1, x5, A, L => (x2 ≤ x5 → (post A L)) ∧ (¬ x2 ≤ x5 → (∃ k9 : Nat, v_X5_writeFirstWay_34 REC x2 x3 x4 x5 (fun x5 A L => v_X5_writeFirstWay_25 REC x2 x3 x4 post n x5 A L) post k9 (0 : Int32) A L))
def v_X5_writeFirstWay (REC : Int32 → Int32 → Int32 → xM → xL → (xM → xL → Prop) → Prop) (x2 : Int32) (x3 : Int32) (x4 : Int32) (A : xM) (L : xL) (post : xM → xL → Prop) : Prop := (x4 ≤ (6 : Int32) → (v_J6_bitCount_0f7a4 x2 (fun (r_2 : Int32) => ((¬ r_2 = (1 : Int32) → (∃ k9 : Nat, v_X5_writeFirstWay_25 REC x2 x3 x4 post k9 (1 : Int32) A L)) ∧ (r_2 = (1 : Int32) → (v_X2_addNumber x3 A L (fun (A_4 : xM) (L_5 : xL) => (post A_4 L_5)))))))) ∧ (¬ x4 ≤ (6 : Int32) → (post A L))
def v_X5_writeFirstWayR : Nat → Int32 → Int32 → Int32 → xM → xL → (xM → xL → Prop) → Prop
  | 0, _, _, _, _, _, _ => False
  | d + 1, x2, x3, x4, A, L, post => v_X5_writeFirstWay (fun z2 z3 z4 A1 L1 post1 => v_X5_writeFirstWayR d z2 z3 z4 A1 L1 post1) x2 x3 x4 A L post
section MECH
variable {p : Program} {l : Launch} {e : Env} {s : State} {m : MethodId} {args : Array Value} {below : List Frame} {meth : Method} {c : Code} {G : xGt}
set_option maxHeartbeats 4000000 in
set_option maxRecDepth 100000 in
theorem t_X5_writeFirstWay_34 (C0 : xC p s m args meth c G cX5_writeFirstWay none wsX5_writeFirstWay RX5 8) {d : Nat} {REC : Int32 → Int32 → Int32 → xM → xL → (xM → xL → Prop) → Prop} (hREC : ∀ {z2 z3 z4 : Int32} {A1 : xM} {L1 : xL} {post1 : xM → xL → Prop}, REC z2 z3 z4 A1 L1 post1 → Met l yX5_writeFirstWay wsX5_writeFirstWay (rW d) (va_Pc [.ref (xad G (2 + 6 * 0)), .ref (xad G 18), .int z2, .int z3, .int z4] (xPre G A1 L1)) (xQv G post1) 0 0 (xAf G)) {post : xM → xL → Prop} {x2 : Int32} {x3 : Int32} {x4 : Int32} {x5 : Int32} {R_25 : Int32 → xM → xL → Prop} (hR_25 : ∀ (x5 : Int32) (A : xM) (L : xL) (H : Heap) (locs : List Loc) (ls : Array Slot), xW G s.heap A L H locs → lv_has ls 8 [(0, .ref (xad G (2 + 6 * 0))), (1, .ref (xad G 18)), (2, .int x2), (3, .int x3), (4, .int x4), (5, .int x5)] → R_25 x5 A L → W p l e (rW (d + 1)) s m args below meth c H locs 0 0 (MQ below (xQv G post) args s 0 0 (xAf G)) (F0 m 25 ls [])) : ∀ (n : Nat) (x6 : Int32) (A : xM) (L : xL) (H : Heap) (locs : List Loc) (ls : Array Slot), xW G s.heap A L H locs → lv_has ls 8 [(0, .ref (xad G (2 + 6 * 0))), (1, .ref (xad G 18)), (2, .int x2), (3, .int x3), (4, .int x4), (5, .int x5), (6, .int x6)] → v_X5_writeFirstWay_34 REC x2 x3 x4 x5 R_25 post n x6 A L → W p l e (rW (d + 1)) s m args below meth c H locs 0 0 (MQ below (xQv G post) args s 0 0 (xAf G)) (F0 m 34 ls []) := by
  obtain ⟨hx, hb, hr, hts, hown, hml, hlocks, hG⟩ := id C0
  intro n
  induction n with
  | zero => intro x6 A L H locs ls hw hl h; exact (show False from h).elim
  | succ n ih =>
    intro x6 A L H locs ls hw hl h
    unfold v_X5_writeFirstWay_34 at h
    refine lv_iload hx hb dX5_writeFirstWay_34 (lv_at hl 6 rfl) ?_
    refine lv_iconst (v := 4) hx hb dX5_writeFirstWay_36 (by decide) ?_
    refine lv_icmp_ge (tgt := 122) hx hb dX5_writeFirstWay_37 (by decide) (fun c_1 => ?_) (fun c_1 => ?_)
    · have h := h.1 c_1
      obtain ⟨x5_2, ex5_2⟩ : ∃ y : Int32, y = x5 + (1 : Int32) := ⟨_, rfl⟩
      have h := h x5_2 ex5_2
      refine lv_iinc (v := x5_2) (lv' := [(5, .int x5_2), (0, .ref (xad G (2 + 6 * 0))), (1, .ref (xad G 18)), (2, .int x2), (3, .int x3), (4, .int x4), (6, .int x6)]) hx hb dX5_writeFirstWay_122 hl (k := 5) rfl (by rw [ex5_2]; rfl) (by decide) rfl (fun ls hl => ?_)
      refine lv_goto (tgt := 25) hx hb dX5_writeFirstWay_125 (by decide) ?_
      exact hR_25 x5_2 A L _ _ _ hw (lv_sub hl [1, 2, 3, 4, 5, 0] rfl) h
    · have h := h.2 c_1
      refine lv_aload_n hx hb dX5_writeFirstWay_40 rfl (lv_at hl 0 rfl) ?_
      refine lv_iload_n hx hb dX5_writeFirstWay_41 rfl (lv_at hl 2 rfl) ?_
      refine lv_iload hx hb dX5_writeFirstWay_42 (lv_at hl 5 rfl) ?_
      refine lv_iload hx hb dX5_writeFirstWay_44 (lv_at hl 6 rfl) ?_
      refine lv_iload_n hx hb dX5_writeFirstWay_46 rfl (lv_at hl 3 rfl) ?_
      refine x_calli hG hw (va_runV (As := [.int x2, .int x5, .int x6, .int x3]) (rest := []) ⟨hx, hb, hml, hown, hts⟩ (c_X1_leastLeftNumber (l := l) (G := G) (show 0 < 2 by decide) h) (cwV 4 hts gX5_writeFirstWay_X1_leastLeftNumber rfl rfl rfl (by decide +kernel) ⟨Nat.le_trans (Nat.le_of_ble_eq_true rfl) (rW_f d), Nat.le_trans (Nat.le_of_ble_eq_true rfl) (rW_l d)⟩) (x_preV hG hw (xOh (q := 0) (by decide)) rfl) rfl rfl hl.1 rfl (lv_room (Nat.le_of_ble_eq_true rfl)) dX5_writeFirstWay_47 ⟨Nat.le_of_ble_eq_true rfl, Nat.le_of_ble_eq_true rfl⟩) (fun r_3 A9 L9 H locs hw h => ?_)
      rw [h.2.1, h.2.2] at hw
      have h := h.1
      refine lv_istore (lv' := [(7, .int r_3), (0, .ref (xad G (2 + 6 * 0))), (1, .ref (xad G 18)), (2, .int x2), (3, .int x3), (4, .int x4), (5, .int x5), (6, .int x6)]) hx hb dX5_writeFirstWay_50 hl (by decide) rfl (fun ls hl => ?_)
      refine lv_iload hx hb dX5_writeFirstWay_52 (lv_at hl 0 rfl) ?_
      refine lv_iconst (v := (-1)) hx hb dX5_writeFirstWay_54 (by decide) ?_
      refine lv_icmp_eq (tgt := 116) hx hb dX5_writeFirstWay_55 (by decide) (fun c_4 => ?_) (fun c_4 => ?_)
      · have h := h.1 c_4
        obtain ⟨x6_5, ex6_5⟩ : ∃ y : Int32, y = x6 + (1 : Int32) := ⟨_, rfl⟩
        have h := h x6_5 ex6_5
        refine lv_iinc (v := x6_5) (lv' := [(6, .int x6_5), (7, .int r_3), (0, .ref (xad G (2 + 6 * 0))), (1, .ref (xad G 18)), (2, .int x2), (3, .int x3), (4, .int x4), (5, .int x5)]) hx hb dX5_writeFirstWay_116 hl (k := 7) rfl (by rw [ex6_5]; rfl) (by decide) rfl (fun ls hl => ?_)
        refine lv_goto (tgt := 34) hx hb dX5_writeFirstWay_119 (by decide) ?_
        exact ih x6_5 A L _ _ _ hw (lv_sub hl [2, 3, 4, 5, 6, 7, 0] rfl) h
      · have h := h.2 c_4
        refine lv_aload_n hx hb dX5_writeFirstWay_58 rfl (lv_at hl 2 rfl) ?_
        refine lv_bipush (v := 40) hx hb dX5_writeFirstWay_59 (by decide) ?_
        refine x_callv hG hw (va_runV (As := [.int (40 : Int32)]) (rest := []) ⟨hx, hb, hml, hown, hts⟩ (c_X2_add (l := l) (G := G) h) (cwV 1 hts gX5_writeFirstWay_X2_add rfl rfl rfl (by decide +kernel) ⟨Nat.le_trans (Nat.le_of_ble_eq_true rfl) (rW_f d), Nat.le_trans (Nat.le_of_ble_eq_true rfl) (rW_l d)⟩) (x_preV hG hw xO18 rfl) rfl rfl hl.1 rfl (lv_room (Nat.le_of_ble_eq_true rfl)) dX5_writeFirstWay_61 ⟨Nat.le_of_ble_eq_true rfl, Nat.le_of_ble_eq_true rfl⟩) (fun A_6 L_7 H locs hw h => ?_)
        refine lv_aload_n hx hb dX5_writeFirstWay_64 rfl (lv_at hl 1 rfl) ?_
        refine lv_aload_n hx hb dX5_writeFirstWay_65 rfl (lv_at hl 2 rfl) ?_
        refine lv_iload hx hb dX5_writeFirstWay_66 (lv_at hl 6 rfl) ?_
        refine lv_iload hx hb dX5_writeFirstWay_68 (lv_at hl 0 rfl) ?_
        refine lv_iload hx hb dX5_writeFirstWay_70 (lv_at hl 5 rfl) ?_
        refine lv_iconst (v := 1) hx hb dX5_writeFirstWay_72 (by decide) ?_
        refine lv_iadd hx hb dX5_writeFirstWay_73 ?_
        refine x_callv hG hw (va_runS (As := [.ref (xad G (2 + 6 * 0)), .ref (xad G 18), .int x5, .int r_3, .int (x4 + (1 : Int32))]) (rest := []) ⟨hx, hb, hml, hown, hts⟩ (hREC h) (va_cwS 5 hts gX5_writeFirstWay_X5_writeFirstWay rfl rfl rfl (by decide +kernel) ⟨Nat.le_of_eq (rW_f1 d), Nat.le_of_eq (rW_l1 d)⟩) (x_preS hG hw) rfl rfl hl.1 rfl (lv_room (Nat.le_of_ble_eq_true rfl)) dX5_writeFirstWay_74 ⟨Nat.le_of_ble_eq_true rfl, Nat.le_of_ble_eq_true rfl⟩) (fun A_8 L_9 H locs hw h => ?_)
        refine lv_aload_n hx hb dX5_writeFirstWay_77 rfl (lv_at hl 2 rfl) ?_
        refine va_ldcS hx hb hown hG.2.2.2.2.1 dX5_writeFirstWay_78 ?_
        refine lv_iload hx hb dX5_writeFirstWay_80 (lv_at hl 7 rfl) ?_
        have i_10 := h.1
        have h := h.2
        refine x_calli hG hw (va_runV (As := [.int x6]) (rest := [.ref (xad G 18)]) ⟨hx, hb, hml, hown, hts⟩ (c_J0_charAt (l := l) (G := G) i_10) (cwV 1 hts gX5_writeFirstWay_J0_charAt_5068e rfl rfl rfl (by decide +kernel) ⟨Nat.le_trans (Nat.le_of_ble_eq_true rfl) (rW_f d), Nat.le_trans (Nat.le_of_ble_eq_true rfl) (rW_l d)⟩) (x_preK hG hw) rfl rfl hl.1 rfl (lv_room (Nat.le_of_ble_eq_true rfl)) dX5_writeFirstWay_82 ⟨Nat.le_of_ble_eq_true rfl, Nat.le_of_ble_eq_true rfl⟩) (fun r A9 L9 H locs hw h8 => ?_)
        rw [h8.2.1, h8.2.2] at hw
        have e8 : r = xmc x6 := h8.1
        subst e8
        refine x_callv hG hw (va_runV (As := [.int (xmc x6)]) (rest := []) ⟨hx, hb, hml, hown, hts⟩ (c_X2_add (l := l) (G := G) h) (cwV 1 hts gX5_writeFirstWay_X2_add rfl rfl rfl (by decide +kernel) ⟨Nat.le_trans (Nat.le_of_ble_eq_true rfl) (rW_f d), Nat.le_trans (Nat.le_of_ble_eq_true rfl) (rW_l d)⟩) (x_preV hG hw xO18 rfl) rfl rfl hl.1 rfl (lv_room (Nat.le_of_ble_eq_true rfl)) dX5_writeFirstWay_85 ⟨Nat.le_of_ble_eq_true rfl, Nat.le_of_ble_eq_true rfl⟩) (fun A_11 L_12 H locs hw h => ?_)
        refine lv_aload_n hx hb dX5_writeFirstWay_88 rfl (lv_at hl 1 rfl) ?_
        refine lv_aload_n hx hb dX5_writeFirstWay_89 rfl (lv_at hl 2 rfl) ?_
        refine lv_iload_n hx hb dX5_writeFirstWay_90 rfl (lv_at hl 3 rfl) ?_
        refine lv_iload hx hb dX5_writeFirstWay_91 (lv_at hl 6 rfl) ?_
        refine lv_ixor hx hb dX5_writeFirstWay_93 ?_
        refine lv_iload hx hb dX5_writeFirstWay_94 (lv_at hl 7 rfl) ?_
        refine lv_iload hx hb dX5_writeFirstWay_96 (lv_at hl 0 rfl) ?_
        refine lv_iload_n hx hb dX5_writeFirstWay_98 rfl (lv_at hl 4 rfl) ?_
        refine x_calli hG hw (va_runS (As := [.int x6, .int r_3, .int x3]) (rest := [.int (x2 ^^^ x5), .ref (xad G 18), .ref (xad G (2 + 6 * 0))]) ⟨hx, hb, hml, hown, hts⟩ (c_X5_rightNumber (l := l) (G := G) h) (va_cwS 3 hts gX5_writeFirstWay_X5_rightNumber rfl rfl rfl (by decide +kernel) ⟨Nat.le_trans (Nat.le_of_ble_eq_true rfl) (rW_f d), Nat.le_trans (Nat.le_of_ble_eq_true rfl) (rW_l d)⟩) (x_preS hG hw) rfl rfl hl.1 rfl (lv_room (Nat.le_of_ble_eq_true rfl)) dX5_writeFirstWay_99 ⟨Nat.le_of_ble_eq_true rfl, Nat.le_of_ble_eq_true rfl⟩) (fun r_13 A9 L9 H locs hw h => ?_)
        rw [h.2.1, h.2.2] at hw
        have h := h.1
        refine lv_iload hx hb dX5_writeFirstWay_102 (lv_at hl 5 rfl) ?_
        refine lv_iconst (v := 1) hx hb dX5_writeFirstWay_104 (by decide) ?_
        refine lv_iadd hx hb dX5_writeFirstWay_105 ?_
        refine x_callv hG hw (va_runS (As := [.ref (xad G (2 + 6 * 0)), .ref (xad G 18), .int (x2 ^^^ x5), .int r_13, .int (x4 + (1 : Int32))]) (rest := []) ⟨hx, hb, hml, hown, hts⟩ (hREC h) (va_cwS 5 hts gX5_writeFirstWay_X5_writeFirstWay rfl rfl rfl (by decide +kernel) ⟨Nat.le_of_eq (rW_f1 d), Nat.le_of_eq (rW_l1 d)⟩) (x_preS hG hw) rfl rfl hl.1 rfl (lv_room (Nat.le_of_ble_eq_true rfl)) dX5_writeFirstWay_106 ⟨Nat.le_of_ble_eq_true rfl, Nat.le_of_ble_eq_true rfl⟩) (fun A_14 L_15 H locs hw h => ?_)
        refine lv_aload_n hx hb dX5_writeFirstWay_109 rfl (lv_at hl 2 rfl) ?_
        refine lv_bipush (v := 41) hx hb dX5_writeFirstWay_110 (by decide) ?_
        refine x_callv hG hw (va_runV (As := [.int (41 : Int32)]) (rest := []) ⟨hx, hb, hml, hown, hts⟩ (c_X2_add (l := l) (G := G) h) (cwV 1 hts gX5_writeFirstWay_X2_add rfl rfl rfl (by decide +kernel) ⟨Nat.le_trans (Nat.le_of_ble_eq_true rfl) (rW_f d), Nat.le_trans (Nat.le_of_ble_eq_true rfl) (rW_l d)⟩) (x_preV hG hw xO18 rfl) rfl rfl hl.1 rfl (lv_room (Nat.le_of_ble_eq_true rfl)) dX5_writeFirstWay_112 ⟨Nat.le_of_ble_eq_true rfl, Nat.le_of_ble_eq_true rfl⟩) (fun A_16 L_17 H locs hw h => ?_)
        exact x_vret hx hb hr hlocks hG hw h dX5_writeFirstWay_115
set_option maxHeartbeats 4000000 in
set_option maxRecDepth 100000 in
theorem t_X5_writeFirstWay_25 (C0 : xC p s m args meth c G cX5_writeFirstWay none wsX5_writeFirstWay RX5 8) {d : Nat} {REC : Int32 → Int32 → Int32 → xM → xL → (xM → xL → Prop) → Prop} (hREC : ∀ {z2 z3 z4 : Int32} {A1 : xM} {L1 : xL} {post1 : xM → xL → Prop}, REC z2 z3 z4 A1 L1 post1 → Met l yX5_writeFirstWay wsX5_writeFirstWay (rW d) (va_Pc [.ref (xad G (2 + 6 * 0)), .ref (xad G 18), .int z2, .int z3, .int z4] (xPre G A1 L1)) (xQv G post1) 0 0 (xAf G)) {post : xM → xL → Prop} {x2 : Int32} {x3 : Int32} {x4 : Int32} : ∀ (n : Nat) (x5 : Int32) (A : xM) (L : xL) (H : Heap) (locs : List Loc) (ls : Array Slot), xW G s.heap A L H locs → lv_has ls 8 [(0, .ref (xad G (2 + 6 * 0))), (1, .ref (xad G 18)), (2, .int x2), (3, .int x3), (4, .int x4), (5, .int x5)] → v_X5_writeFirstWay_25 REC x2 x3 x4 post n x5 A L → W p l e (rW (d + 1)) s m args below meth c H locs 0 0 (MQ below (xQv G post) args s 0 0 (xAf G)) (F0 m 25 ls []) := by
  obtain ⟨hx, hb, hr, hts, hown, hml, hlocks, hG⟩ := id C0
  intro n
  induction n with
  | zero => intro x5 A L H locs ls hw hl h; exact (show False from h).elim
  | succ n ih =>
    intro x5 A L H locs ls hw hl h
    unfold v_X5_writeFirstWay_25 at h
    refine lv_iload hx hb dX5_writeFirstWay_25 (lv_at hl 5 rfl) ?_
    refine lv_iload_n hx hb dX5_writeFirstWay_27 rfl (lv_at hl 2 rfl) ?_
    refine lv_icmp_ge (tgt := 128) hx hb dX5_writeFirstWay_28 (by decide) (fun c_1 => ?_) (fun c_1 => ?_)
    · have h := h.1 c_1
      exact x_vret hx hb hr hlocks hG hw h dX5_writeFirstWay_128
    · have h := h.2 c_1
      refine lv_iconst (v := 0) hx hb dX5_writeFirstWay_31 (by decide) ?_
      refine lv_istore (lv' := [(6, .int (0 : Int32)), (0, .ref (xad G (2 + 6 * 0))), (1, .ref (xad G 18)), (2, .int x2), (3, .int x3), (4, .int x4), (5, .int x5)]) hx hb dX5_writeFirstWay_32 hl (by decide) rfl (fun ls hl => ?_)
      obtain ⟨n9, h⟩ := h
      exact t_X5_writeFirstWay_34 C0 hREC ih n9 (0 : Int32) A L _ _ _ hw (lv_sub hl [1, 2, 3, 4, 5, 6, 0] rfl) h
set_option maxHeartbeats 4000000 in
set_option maxRecDepth 100000 in
theorem t_X5_writeFirstWay_0 (C0 : xC p s m args meth c G cX5_writeFirstWay none wsX5_writeFirstWay RX5 8) {d : Nat} {REC : Int32 → Int32 → Int32 → xM → xL → (xM → xL → Prop) → Prop} (hREC : ∀ {z2 z3 z4 : Int32} {A1 : xM} {L1 : xL} {post1 : xM → xL → Prop}, REC z2 z3 z4 A1 L1 post1 → Met l yX5_writeFirstWay wsX5_writeFirstWay (rW d) (va_Pc [.ref (xad G (2 + 6 * 0)), .ref (xad G 18), .int z2, .int z3, .int z4] (xPre G A1 L1)) (xQv G post1) 0 0 (xAf G)) {post : xM → xL → Prop} {x2 : Int32} {x3 : Int32} {x4 : Int32} {A : xM} {L : xL} {H : Heap} {locs : List Loc} {ls : Array Slot} (hw : xW G s.heap A L H locs) (hl : lv_has ls 8 [(0, .ref (xad G (2 + 6 * 0))), (1, .ref (xad G 18)), (2, .int x2), (3, .int x3), (4, .int x4)]) (h : v_X5_writeFirstWay REC x2 x3 x4 A L post) : W p l e (rW (d + 1)) s m args below meth c H locs 0 0 (MQ below (xQv G post) args s 0 0 (xAf G)) (F0 m 0 ls []) := by
  obtain ⟨hx, hb, hr, hts, hown, hml, hlocks, hG⟩ := id C0
  unfold v_X5_writeFirstWay at h
  refine lv_iload hx hb dX5_writeFirstWay_0 (lv_at hl 4 rfl) ?_
  refine lv_bipush (v := 6) hx hb dX5_writeFirstWay_2 (by decide) ?_
  refine lv_icmp_le (tgt := 8) hx hb dX5_writeFirstWay_4 (by decide) (fun c_1 => ?_) (fun c_1 => ?_)
  · have h := h.1 c_1
    refine lv_iload_n hx hb dX5_writeFirstWay_8 rfl (lv_at hl 2 rfl) ?_
    refine x_calli hG hw (va_runS (As := [.int x2]) (rest := []) ⟨hx, hb, hml, hown, hts⟩ (c_J6_bitCount_0f7a4 (l := l) (G := G) h) (va_cwS 1 hts gX5_writeFirstWay_J6_bitCount_0f7a4 rfl rfl rfl (by decide +kernel) ⟨Nat.le_trans (Nat.le_of_ble_eq_true rfl) (rW_f d), Nat.le_trans (Nat.le_of_ble_eq_true rfl) (rW_l d)⟩) (x_preS hG hw) rfl rfl hl.1 rfl (lv_room (Nat.le_of_ble_eq_true rfl)) dX5_writeFirstWay_9 ⟨Nat.le_of_ble_eq_true rfl, Nat.le_of_ble_eq_true rfl⟩) (fun r_2 A9 L9 H locs hw h => ?_)
    rw [h.2.1, h.2.2] at hw
    have h := h.1
    refine lv_iconst (v := 1) hx hb dX5_writeFirstWay_12 (by decide) ?_
    refine lv_icmp_ne (tgt := 22) hx hb dX5_writeFirstWay_13 (by decide) (fun c_3 => ?_) (fun c_3 => ?_)
    · have h := h.1 c_3
      refine lv_iconst (v := 1) hx hb dX5_writeFirstWay_22 (by decide) ?_
      refine lv_istore (lv' := [(5, .int (1 : Int32)), (0, .ref (xad G (2 + 6 * 0))), (1, .ref (xad G 18)), (2, .int x2), (3, .int x3), (4, .int x4)]) hx hb dX5_writeFirstWay_23 hl (by decide) rfl (fun ls hl => ?_)
      obtain ⟨n9, h⟩ := h
      exact t_X5_writeFirstWay_25 C0 hREC n9 (1 : Int32) A L _ _ _ hw (lv_sub hl [1, 2, 3, 4, 5, 0] rfl) h
    · have h := h.2 c_3
      refine lv_aload_n hx hb dX5_writeFirstWay_16 rfl (lv_at hl 1 rfl) ?_
      refine lv_iload_n hx hb dX5_writeFirstWay_17 rfl (lv_at hl 3 rfl) ?_
      refine x_callv hG hw (va_runV (As := [.int x3]) (rest := []) ⟨hx, hb, hml, hown, hts⟩ (c_X2_addNumber (l := l) (G := G) h) (cwV 1 hts gX5_writeFirstWay_X2_addNumber rfl rfl rfl (by decide +kernel) ⟨Nat.le_trans (Nat.le_of_ble_eq_true rfl) (rW_f d), Nat.le_trans (Nat.le_of_ble_eq_true rfl) (rW_l d)⟩) (x_preV hG hw xO18 rfl) rfl rfl hl.1 rfl (lv_room (Nat.le_of_ble_eq_true rfl)) dX5_writeFirstWay_18 ⟨Nat.le_of_ble_eq_true rfl, Nat.le_of_ble_eq_true rfl⟩) (fun A_4 L_5 H locs hw h => ?_)
      exact x_vret hx hb hr hlocks hG hw h dX5_writeFirstWay_21
  · have h := h.2 c_1
    exact x_vret hx hb hr hlocks hG hw h dX5_writeFirstWay_7
theorem c_X5_writeFirstWay {l : Launch} {G : xGt} : ∀ (d : Nat) {x2 x3 x4 : Int32} {A : xM} {L : xL} {post : xM → xL → Prop}, v_X5_writeFirstWayR d x2 x3 x4 A L post → Met l yX5_writeFirstWay wsX5_writeFirstWay (rW d) (va_Pc [.ref (xad G (2 + 6 * 0)), .ref (xad G 18), .int x2, .int x3, .int x4] (xPre G A L)) (xQv G post) 0 0 (xAf G) := by
  intro d
  induction d with
  | zero => intro x2 x3 x4 A L post h; exact (show False from h).elim
  | succ d ih =>
    intro x2 x3 x4 A L post h
    exact x_met RX5 rfl (by decide) rfl (Nat.le_of_ble_eq_true rfl) (fun p e s m below meth c ls C0 hw hl => t_X5_writeFirstWay_0 C0 (fun h1 => ih h1) hw hl h)
end MECH
abbrev rX5_printWay : Room := { frames := 13, cells := 0, slots := 0, locals := 443 }
theorem inX5_printWay_X2 : ∀ w ∈ wsX20, w ∈ wsX5_printWay := fun w h => List.mem_cons_of_mem _ (List.mem_append_left _ (List.mem_append_left _ (List.mem_append_right _ h)))
theorem inX5_printWay_X5 : ∀ w ∈ wsX50, w ∈ wsX5_printWay := fun w h => List.mem_cons_of_mem _ (List.mem_append_left _ (List.mem_append_left _ (List.mem_append_left _ (List.mem_append_right _ h))))
def v_X5_printWay (x1 : Int32) (x2 : Int32) (A : xM) (L : xL) (post : Int32 → xM → xL → Prop) : Prop := ∀ A_1 : xM, A_1 = xu A 18 1 (0 : Int32) → (v_X5_writeFirstWayR 8 x1 x2 (1 : Int32) A_1 L (fun (A_2 : xM) (L_3 : xL) => (post (A_2 18 1) A_2 L_3)))
section MECH
variable {p : Program} {l : Launch} {e : Env} {s : State} {m : MethodId} {args : Array Value} {below : List Frame} {meth : Method} {c : Code} {G : xGt}
set_option maxHeartbeats 4000000 in
set_option maxRecDepth 100000 in
theorem t_X5_printWay_0 (C0 : xC p s m args meth c G cX5_printWay (some .int) wsX5_printWay RX5 3) {post : Int32 → xM → xL → Prop} {x1 : Int32} {x2 : Int32} {A : xM} {L : xL} {H : Heap} {locs : List Loc} {ls : Array Slot} (hw : xW G s.heap A L H locs) (hl : lv_has ls 3 [(0, .ref (xad G 0)), (1, .int x1), (2, .int x2)]) (h : v_X5_printWay x1 x2 A L post) : W p l e rX5_printWay s m args below meth c H locs 0 0 (MQ below (xQi G post) args s 0 0 (xAf G)) (F0 m 0 ls []) := by
  obtain ⟨hx, hb, hr, hts, hown, hml, hlocks, hG⟩ := id C0
  unfold v_X5_printWay at h
  refine lv_aload_n hx hb dX5_printWay_0 rfl (lv_at hl 0 rfl) ?_
  refine x_get (C := RX5) (T := TX5) (N := 6) hx hb hts inX5_printWay_X5 hown hG hw xO0 rfl 4 (by decide) (hts (.fieldLink RX5 40 "SixNumbers" "bytes" "LSixNumbers$Out;") (List.mem_of_getElem? (i := 1) rfl)) (fun _ h9 => h9) (v := .ref (xad G 18)) rfl dX5_printWay_1 ?_
  refine lv_iconst (v := 0) hx hb dX5_printWay_4 (by decide) ?_
  refine x_putN (C := RX2) (T := TX2) (N := 2) hx hb hts inX5_printWay_X2 tyX2 tyX2_ok nmX2 hown hG hw xO18 rfl 1 (by decide) (va_Nw.use rfl (hG.2.2.2.1 _ (List.mem_of_getElem? (i := 5) rfl))) (fun _ h9 => h9) rfl (ty := .int) (by decide +kernel) rfl rfl (Nat.le_of_ble_eq_true rfl) rfl dX5_printWay_5 (fun A_1 H locs eA_1 hw => ?_)
  have h := h A_1 eA_1
  refine lv_aload_n hx hb dX5_printWay_8 rfl (lv_at hl 0 rfl) ?_
  refine x_get (C := RX5) (T := TX5) (N := 6) hx hb hts inX5_printWay_X5 hown hG hw xO0 rfl 1 (by decide) (hts (.fieldLink RX5 21 "SixNumbers" "heap" "LSixNumbers$Heap;") (List.mem_of_getElem? (i := 2) rfl)) (fun _ h9 => h9) (v := .ref (xad G (2 + 6 * 0))) rfl dX5_printWay_9 ?_
  refine lv_aload_n hx hb dX5_printWay_12 rfl (lv_at hl 0 rfl) ?_
  refine x_get (C := RX5) (T := TX5) (N := 6) hx hb hts inX5_printWay_X5 hown hG hw xO0 rfl 4 (by decide) (hts (.fieldLink RX5 40 "SixNumbers" "bytes" "LSixNumbers$Out;") (List.mem_of_getElem? (i := 1) rfl)) (fun _ h9 => h9) (v := .ref (xad G 18)) rfl dX5_printWay_13 ?_
  refine lv_iload_n hx hb dX5_printWay_16 rfl (lv_at hl 1 rfl) ?_
  refine lv_iload_n hx hb dX5_printWay_17 rfl (lv_at hl 2 rfl) ?_
  refine lv_iconst (v := 1) hx hb dX5_printWay_18 (by decide) ?_
  refine x_callv hG hw (va_runS (As := [.ref (xad G (2 + 6 * 0)), .ref (xad G 18), .int x1, .int x2, .int (1 : Int32)]) (rest := []) ⟨hx, hb, hml, hown, hts⟩ (c_X5_writeFirstWay (l := l) (G := G) 8 h) (va_cwS 5 hts gX5_printWay_X5_writeFirstWay rfl rfl rfl (by decide +kernel) ⟨Nat.le_of_ble_eq_true rfl, Nat.le_of_ble_eq_true rfl⟩) (x_preS hG hw) rfl rfl hl.1 rfl (lv_room (Nat.le_of_ble_eq_true rfl)) dX5_printWay_19 ⟨Nat.le_of_ble_eq_true rfl, Nat.le_of_ble_eq_true rfl⟩) (fun A_2 L_3 H locs hw h => ?_)
  refine lv_aload_n hx hb dX5_printWay_22 rfl (lv_at hl 0 rfl) ?_
  refine x_get (C := RX5) (T := TX5) (N := 6) hx hb hts inX5_printWay_X5 hown hG hw xO0 rfl 4 (by decide) (hts (.fieldLink RX5 40 "SixNumbers" "bytes" "LSixNumbers$Out;") (List.mem_of_getElem? (i := 1) rfl)) (fun _ h9 => h9) (v := .ref (xad G 18)) rfl dX5_printWay_23 ?_
  refine x_getN (C := RX2) (T := TX2) (N := 2) hx hb hts inX5_printWay_X2 hown hG hw xO18 rfl 1 (by decide) (va_Nw.use rfl (hG.2.2.2.1 _ (List.mem_of_getElem? (i := 5) rfl))) (fun _ h9 => h9) (v := .int (A_2 18 1)) rfl dX5_printWay_26 ?_
  exact x_iret hx hb hr hlocks hG hw h dX5_printWay_29
theorem c_X5_printWay {l : Launch} {G : xGt} {x1 : Int32} {x2 : Int32} {A : xM} {L : xL} {post : Int32 → xM → xL → Prop} (h : v_X5_printWay x1 x2 A L post) : Met l yX5_printWay wsX5_printWay rX5_printWay (va_Pc [.ref (xad G 0), .int x1, .int x2] (xPre G A L)) (xQi G post) 0 0 (xAf G) :=
  x_met RX5 rfl (by decide) rfl (Nat.le_of_ble_eq_true rfl) (fun p e s m below meth c ls C0 hw hl => t_X5_printWay_0 C0 hw hl h)
end MECH
abbrev rX5_print : Room := { frames := 14, cells := 0, slots := 0, locals := 465 }
theorem inX5_print_X5 : ∀ w ∈ wsX50, w ∈ wsX5_print := fun w h => List.mem_cons_of_mem _ (List.mem_append_left _ (List.mem_append_left _ (List.mem_append_left _ (List.mem_append_right _ h))))
def v_X5_print (x1 : Int32) (A : xM) (L : xL) (post : Int32 → xM → xL → Prop) : Prop := v_X5_isOutside x1 (1 : Int32) (3000 : Int32) (fun (r_1 : Int32) => ((r_1 = 0 → (v_X1_refresh 0 A L (fun (A_3 : xM) (L_4 : xL) => (v_X1_reaches 0 x1 A_3 L_4 (fun (r_5 : Int32) => ((¬ r_5 = 0 → (v_X1_firstSet 0 x1 A_3 L_4 (fun (r_7 : Int32) => (v_X5_printWay r_7 x1 A_3 L_4 (fun (r_8 : Int32) (A_9 : xM) (L_10 : xL) => (post r_8 A_9 L_10)))))) ∧ (r_5 = 0 → (post (-1003 : Int32) A_3 L_4)))))))) ∧ (¬ r_1 = 0 → (post (-1002 : Int32) A L))))
section MECH
variable {p : Program} {l : Launch} {e : Env} {s : State} {m : MethodId} {args : Array Value} {below : List Frame} {meth : Method} {c : Code} {G : xGt}
set_option maxHeartbeats 4000000 in
set_option maxRecDepth 100000 in
theorem t_X5_print_0 (C0 : xC p s m args meth c G cX5_print (some .int) wsX5_print RX5 2) {post : Int32 → xM → xL → Prop} {x1 : Int32} {A : xM} {L : xL} {H : Heap} {locs : List Loc} {ls : Array Slot} (hw : xW G s.heap A L H locs) (hl : lv_has ls 2 [(0, .ref (xad G 0)), (1, .int x1)]) (h : v_X5_print x1 A L post) : W p l e rX5_print s m args below meth c H locs 0 0 (MQ below (xQi G post) args s 0 0 (xAf G)) (F0 m 0 ls []) := by
  obtain ⟨hx, hb, hr, hts, hown, hml, hlocks, hG⟩ := id C0
  unfold v_X5_print at h
  refine lv_iload_n hx hb dX5_print_0 rfl (lv_at hl 1 rfl) ?_
  refine lv_iconst (v := 1) hx hb dX5_print_1 (by decide) ?_
  refine lv_sipush (v := 3000) hx hb dX5_print_2 (by decide) ?_
  refine x_calli hG hw (va_runS (As := [.int x1, .int (1 : Int32), .int (3000 : Int32)]) (rest := []) ⟨hx, hb, hml, hown, hts⟩ (c_X5_isOutside (l := l) (G := G) h) (va_cwS 3 hts gX5_print_X5_isOutside rfl rfl rfl (by decide +kernel) ⟨Nat.le_of_ble_eq_true rfl, Nat.le_of_ble_eq_true rfl⟩) (x_preS hG hw) rfl rfl hl.1 rfl (lv_room (Nat.le_of_ble_eq_true rfl)) dX5_print_5 ⟨Nat.le_of_ble_eq_true rfl, Nat.le_of_ble_eq_true rfl⟩) (fun r_1 A9 L9 H locs hw h => ?_)
  rw [h.2.1, h.2.2] at hw
  have h := h.1
  refine lv_if_eq (tgt := 15) hx hb dX5_print_8 (by decide) (fun c_2 => ?_) (fun c_2 => ?_)
  · have h := h.1 c_2
    refine lv_aload_n hx hb dX5_print_15 rfl (lv_at hl 0 rfl) ?_
    refine x_get (C := RX5) (T := TX5) (N := 6) hx hb hts inX5_print_X5 hown hG hw xO0 rfl 1 (by decide) (hts (.fieldLink RX5 21 "SixNumbers" "heap" "LSixNumbers$Heap;") (List.mem_of_getElem? (i := 1) rfl)) (fun _ h9 => h9) (v := .ref (xad G (2 + 6 * 0))) rfl dX5_print_16 ?_
    refine x_callv hG hw (va_runV (As := []) (rest := []) ⟨hx, hb, hml, hown, hts⟩ (c_X1_refresh (l := l) (G := G) (show 0 < 2 by decide) h) (cwV 0 hts gX5_print_X1_refresh rfl rfl rfl (by decide +kernel) ⟨Nat.le_of_ble_eq_true rfl, Nat.le_of_ble_eq_true rfl⟩) (x_preV hG hw (xOh (q := 0) (by decide)) rfl) rfl rfl hl.1 rfl (lv_room (Nat.le_of_ble_eq_true rfl)) dX5_print_19 ⟨Nat.le_of_ble_eq_true rfl, Nat.le_of_ble_eq_true rfl⟩) (fun A_3 L_4 H locs hw h => ?_)
    refine lv_aload_n hx hb dX5_print_22 rfl (lv_at hl 0 rfl) ?_
    refine x_get (C := RX5) (T := TX5) (N := 6) hx hb hts inX5_print_X5 hown hG hw xO0 rfl 1 (by decide) (hts (.fieldLink RX5 21 "SixNumbers" "heap" "LSixNumbers$Heap;") (List.mem_of_getElem? (i := 1) rfl)) (fun _ h9 => h9) (v := .ref (xad G (2 + 6 * 0))) rfl dX5_print_23 ?_
    refine lv_iload_n hx hb dX5_print_26 rfl (lv_at hl 1 rfl) ?_
    refine x_calli hG hw (va_runV (As := [.int x1]) (rest := []) ⟨hx, hb, hml, hown, hts⟩ (c_X1_reaches (l := l) (G := G) (show 0 < 2 by decide) h) (cwV 1 hts gX5_print_X1_reaches rfl rfl rfl (by decide +kernel) ⟨Nat.le_of_ble_eq_true rfl, Nat.le_of_ble_eq_true rfl⟩) (x_preV hG hw (xOh (q := 0) (by decide)) rfl) rfl rfl hl.1 rfl (lv_room (Nat.le_of_ble_eq_true rfl)) dX5_print_27 ⟨Nat.le_of_ble_eq_true rfl, Nat.le_of_ble_eq_true rfl⟩) (fun r_5 A9 L9 H locs hw h => ?_)
    rw [h.2.1, h.2.2] at hw
    have h := h.1
    refine lv_if_ne (tgt := 37) hx hb dX5_print_30 (by decide) (fun c_6 => ?_) (fun c_6 => ?_)
    · have h := h.1 c_6
      refine lv_aload_n hx hb dX5_print_37 rfl (lv_at hl 0 rfl) ?_
      refine lv_aload_n hx hb dX5_print_38 rfl (lv_at hl 0 rfl) ?_
      refine x_get (C := RX5) (T := TX5) (N := 6) hx hb hts inX5_print_X5 hown hG hw xO0 rfl 1 (by decide) (hts (.fieldLink RX5 21 "SixNumbers" "heap" "LSixNumbers$Heap;") (List.mem_of_getElem? (i := 1) rfl)) (fun _ h9 => h9) (v := .ref (xad G (2 + 6 * 0))) rfl dX5_print_39 ?_
      refine lv_iload_n hx hb dX5_print_42 rfl (lv_at hl 1 rfl) ?_
      refine x_calli hG hw (va_runV (As := [.int x1]) (rest := [.ref (xad G 0)]) ⟨hx, hb, hml, hown, hts⟩ (c_X1_firstSet (l := l) (G := G) (show 0 < 2 by decide) h) (cwV 1 hts gX5_print_X1_firstSet rfl rfl rfl (by decide +kernel) ⟨Nat.le_of_ble_eq_true rfl, Nat.le_of_ble_eq_true rfl⟩) (x_preV hG hw (xOh (q := 0) (by decide)) rfl) rfl rfl hl.1 rfl (lv_room (Nat.le_of_ble_eq_true rfl)) dX5_print_43 ⟨Nat.le_of_ble_eq_true rfl, Nat.le_of_ble_eq_true rfl⟩) (fun r_7 A9 L9 H locs hw h => ?_)
      rw [h.2.1, h.2.2] at hw
      have h := h.1
      refine lv_iload_n hx hb dX5_print_46 rfl (lv_at hl 1 rfl) ?_
      refine x_calli hG hw (va_runV (As := [.int r_7, .int x1]) (rest := []) ⟨hx, hb, hml, hown, hts⟩ (c_X5_printWay (l := l) (G := G) h) (cwV 2 hts gX5_print_X5_printWay rfl rfl rfl (by decide +kernel) ⟨Nat.le_of_ble_eq_true rfl, Nat.le_of_ble_eq_true rfl⟩) (x_preV hG hw xO0 rfl) rfl rfl hl.1 rfl (lv_room (Nat.le_of_ble_eq_true rfl)) dX5_print_47 ⟨Nat.le_of_ble_eq_true rfl, Nat.le_of_ble_eq_true rfl⟩) (fun r_8 A_9 L_10 H locs hw h => ?_)
      exact x_iret hx hb hr hlocks hG hw h dX5_print_50
    · have h := h.2 c_6
      refine lv_sipush (v := (-1003)) hx hb dX5_print_33 (by decide) ?_
      exact x_iret hx hb hr hlocks hG hw h dX5_print_36
  · have h := h.2 c_2
    refine lv_sipush (v := (-1002)) hx hb dX5_print_11 (by decide) ?_
    exact x_iret hx hb hr hlocks hG hw h dX5_print_14
theorem c_X5_print {l : Launch} {G : xGt} {x1 : Int32} {A : xM} {L : xL} {post : Int32 → xM → xL → Prop} (h : v_X5_print x1 A L post) : Met l yX5_print wsX5_print rX5_print (va_Pc [.ref (xad G 0), .int x1] (xPre G A L)) (xQi G post) 0 0 (xAf G) :=
  x_met RX5 rfl (by decide) rfl (Nat.le_of_ble_eq_true rfl) (fun p e s m below meth c ls C0 hw hl => t_X5_print_0 C0 hw hl h)
end MECH
abbrev rX5_printOf : Room := { frames := 14, cells := 0, slots := 0, locals := 465 }
theorem inX5_printOf_X5 : ∀ w ∈ wsX50, w ∈ wsX5_printOf := fun w h => List.mem_cons_of_mem _ (List.mem_append_left _ (List.mem_append_left _ (List.mem_append_left _ (List.mem_append_right _ h))))
def v_X5_printOf (x1 : Int32) (x2 : Int32) (A : xM) (L : xL) (post : Int32 → xM → xL → Prop) : Prop := v_X5_isNoWholeSet x1 A L (fun (r_1 : Int32) => ((¬ r_1 = 0 → (post (-1002 : Int32) A L)) ∧ (r_1 = 0 → (v_X5_isOutside x2 (1 : Int32) (3000 : Int32) (fun (r_3 : Int32) => ((r_3 = 0 → (v_X1_refresh 0 A L (fun (A_5 : xM) (L_6 : xL) => (v_X1_countOf 0 x1 x2 A_5 L_6 (fun (r_7 : Int64) => ((¬ (lg_cmp r_7 (0 : Int64)) = 0 → (v_X5_printWay x1 x2 A_5 L_6 (fun (r_9 : Int32) (A_10 : xM) (L_11 : xL) => (post r_9 A_10 L_11)))) ∧ ((lg_cmp r_7 (0 : Int64)) = 0 → (post (-1003 : Int32) A_5 L_6)))))))) ∧ (¬ r_3 = 0 → (post (-1002 : Int32) A L))))))))
section MECH
variable {p : Program} {l : Launch} {e : Env} {s : State} {m : MethodId} {args : Array Value} {below : List Frame} {meth : Method} {c : Code} {G : xGt}
set_option maxHeartbeats 4000000 in
set_option maxRecDepth 100000 in
theorem t_X5_printOf_0 (C0 : xC p s m args meth c G cX5_printOf (some .int) wsX5_printOf RX5 3) {post : Int32 → xM → xL → Prop} {x1 : Int32} {x2 : Int32} {A : xM} {L : xL} {H : Heap} {locs : List Loc} {ls : Array Slot} (hw : xW G s.heap A L H locs) (hl : lv_has ls 3 [(0, .ref (xad G 0)), (1, .int x1), (2, .int x2)]) (h : v_X5_printOf x1 x2 A L post) : W p l e rX5_printOf s m args below meth c H locs 0 0 (MQ below (xQi G post) args s 0 0 (xAf G)) (F0 m 0 ls []) := by
  obtain ⟨hx, hb, hr, hts, hown, hml, hlocks, hG⟩ := id C0
  unfold v_X5_printOf at h
  refine lv_aload_n hx hb dX5_printOf_0 rfl (lv_at hl 0 rfl) ?_
  refine lv_iload_n hx hb dX5_printOf_1 rfl (lv_at hl 1 rfl) ?_
  refine x_calli hG hw (va_runV (As := [.int x1]) (rest := []) ⟨hx, hb, hml, hown, hts⟩ (c_X5_isNoWholeSet (l := l) (G := G) h) (cwV 1 hts gX5_printOf_X5_isNoWholeSet rfl rfl rfl (by decide +kernel) ⟨Nat.le_of_ble_eq_true rfl, Nat.le_of_ble_eq_true rfl⟩) (x_preV hG hw xO0 rfl) rfl rfl hl.1 rfl (lv_room (Nat.le_of_ble_eq_true rfl)) dX5_printOf_2 ⟨Nat.le_of_ble_eq_true rfl, Nat.le_of_ble_eq_true rfl⟩) (fun r_1 A9 L9 H locs hw h => ?_)
  rw [h.2.1, h.2.2] at hw
  have h := h.1
  refine lv_if_ne (tgt := 19) hx hb dX5_printOf_5 (by decide) (fun c_2 => ?_) (fun c_2 => ?_)
  · have h := h.1 c_2
    refine lv_sipush (v := (-1002)) hx hb dX5_printOf_19 (by decide) ?_
    exact x_iret hx hb hr hlocks hG hw h dX5_printOf_22
  · have h := h.2 c_2
    refine lv_iload_n hx hb dX5_printOf_8 rfl (lv_at hl 2 rfl) ?_
    refine lv_iconst (v := 1) hx hb dX5_printOf_9 (by decide) ?_
    refine lv_sipush (v := 3000) hx hb dX5_printOf_10 (by decide) ?_
    refine x_calli hG hw (va_runS (As := [.int x2, .int (1 : Int32), .int (3000 : Int32)]) (rest := []) ⟨hx, hb, hml, hown, hts⟩ (c_X5_isOutside (l := l) (G := G) h) (va_cwS 3 hts gX5_printOf_X5_isOutside rfl rfl rfl (by decide +kernel) ⟨Nat.le_of_ble_eq_true rfl, Nat.le_of_ble_eq_true rfl⟩) (x_preS hG hw) rfl rfl hl.1 rfl (lv_room (Nat.le_of_ble_eq_true rfl)) dX5_printOf_13 ⟨Nat.le_of_ble_eq_true rfl, Nat.le_of_ble_eq_true rfl⟩) (fun r_3 A9 L9 H locs hw h => ?_)
    rw [h.2.1, h.2.2] at hw
    have h := h.1
    refine lv_if_eq (tgt := 23) hx hb dX5_printOf_16 (by decide) (fun c_4 => ?_) (fun c_4 => ?_)
    · have h := h.1 c_4
      refine lv_aload_n hx hb dX5_printOf_23 rfl (lv_at hl 0 rfl) ?_
      refine x_get (C := RX5) (T := TX5) (N := 6) hx hb hts inX5_printOf_X5 hown hG hw xO0 rfl 1 (by decide) (hts (.fieldLink RX5 21 "SixNumbers" "heap" "LSixNumbers$Heap;") (List.mem_of_getElem? (i := 1) rfl)) (fun _ h9 => h9) (v := .ref (xad G (2 + 6 * 0))) rfl dX5_printOf_24 ?_
      refine x_callv hG hw (va_runV (As := []) (rest := []) ⟨hx, hb, hml, hown, hts⟩ (c_X1_refresh (l := l) (G := G) (show 0 < 2 by decide) h) (cwV 0 hts gX5_printOf_X1_refresh rfl rfl rfl (by decide +kernel) ⟨Nat.le_of_ble_eq_true rfl, Nat.le_of_ble_eq_true rfl⟩) (x_preV hG hw (xOh (q := 0) (by decide)) rfl) rfl rfl hl.1 rfl (lv_room (Nat.le_of_ble_eq_true rfl)) dX5_printOf_27 ⟨Nat.le_of_ble_eq_true rfl, Nat.le_of_ble_eq_true rfl⟩) (fun A_5 L_6 H locs hw h => ?_)
      refine lv_aload_n hx hb dX5_printOf_30 rfl (lv_at hl 0 rfl) ?_
      refine x_get (C := RX5) (T := TX5) (N := 6) hx hb hts inX5_printOf_X5 hown hG hw xO0 rfl 1 (by decide) (hts (.fieldLink RX5 21 "SixNumbers" "heap" "LSixNumbers$Heap;") (List.mem_of_getElem? (i := 1) rfl)) (fun _ h9 => h9) (v := .ref (xad G (2 + 6 * 0))) rfl dX5_printOf_31 ?_
      refine lv_iload_n hx hb dX5_printOf_34 rfl (lv_at hl 1 rfl) ?_
      refine lv_iload_n hx hb dX5_printOf_35 rfl (lv_at hl 2 rfl) ?_
      refine x_calll hG hw (va_runV (As := [.int x1, .int x2]) (rest := []) ⟨hx, hb, hml, hown, hts⟩ (c_X1_countOf (l := l) (G := G) (show 0 < 2 by decide) h) (cwV 2 hts gX5_printOf_X1_countOf rfl rfl rfl (by decide +kernel) ⟨Nat.le_of_ble_eq_true rfl, Nat.le_of_ble_eq_true rfl⟩) (x_preV hG hw (xOh (q := 0) (by decide)) rfl) rfl rfl hl.1 rfl (lv_room (Nat.le_of_ble_eq_true rfl)) dX5_printOf_36 ⟨Nat.le_of_ble_eq_true rfl, Nat.le_of_ble_eq_true rfl⟩) (fun r_7 A9 L9 H locs hw h => ?_)
      rw [h.2.1, h.2.2] at hw
      have h := h.1
      refine lv_lconst (v := 0) hx hb dX5_printOf_39 (by decide) ?_
      refine W.lcmp hx hb dX5_printOf_40 ?_
      refine lv_if_ne (tgt := 48) hx hb dX5_printOf_41 (by decide) (fun c_8 => ?_) (fun c_8 => ?_)
      · have h := h.1 c_8
        refine lv_aload_n hx hb dX5_printOf_48 rfl (lv_at hl 0 rfl) ?_
        refine lv_iload_n hx hb dX5_printOf_49 rfl (lv_at hl 1 rfl) ?_
        refine lv_iload_n hx hb dX5_printOf_50 rfl (lv_at hl 2 rfl) ?_
        refine x_calli hG hw (va_runV (As := [.int x1, .int x2]) (rest := []) ⟨hx, hb, hml, hown, hts⟩ (c_X5_printWay (l := l) (G := G) h) (cwV 2 hts gX5_printOf_X5_printWay rfl rfl rfl (by decide +kernel) ⟨Nat.le_of_ble_eq_true rfl, Nat.le_of_ble_eq_true rfl⟩) (x_preV hG hw xO0 rfl) rfl rfl hl.1 rfl (lv_room (Nat.le_of_ble_eq_true rfl)) dX5_printOf_51 ⟨Nat.le_of_ble_eq_true rfl, Nat.le_of_ble_eq_true rfl⟩) (fun r_9 A_10 L_11 H locs hw h => ?_)
        exact x_iret hx hb hr hlocks hG hw h dX5_printOf_54
      · have h := h.2 c_8
        refine lv_sipush (v := (-1003)) hx hb dX5_printOf_44 (by decide) ?_
        exact x_iret hx hb hr hlocks hG hw h dX5_printOf_47
    · have h := h.2 c_4
      refine lv_sipush (v := (-1002)) hx hb dX5_printOf_19 (by decide) ?_
      exact x_iret hx hb hr hlocks hG hw h dX5_printOf_22
theorem c_X5_printOf {l : Launch} {G : xGt} {x1 : Int32} {x2 : Int32} {A : xM} {L : xL} {post : Int32 → xM → xL → Prop} (h : v_X5_printOf x1 x2 A L post) : Met l yX5_printOf wsX5_printOf rX5_printOf (va_Pc [.ref (xad G 0), .int x1, .int x2] (xPre G A L)) (xQi G post) 0 0 (xAf G) :=
  x_met RX5 rfl (by decide) rfl (Nat.le_of_ble_eq_true rfl) (fun p e s m below meth c ls C0 hw hl => t_X5_printOf_0 C0 hw hl h)
end MECH
