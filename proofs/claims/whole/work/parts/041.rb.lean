abbrev rX6_join : Room := { frames := 1, cells := 0, slots := 0, locals := 25 }
theorem inX6_join_X6 : ∀ w ∈ wsX60, w ∈ wsX6_join := fun w h => List.mem_cons_of_mem _ (List.mem_append_right _ h)
def v_X6_join_192 (x1 : Int32) (x2 : Int32) (x3 : Int32) (x4 : Int32) (x5 : Int32) (x6 : Int32) (x7 : Int32) (x8 : Int32) (x9 : Int32) (x10 : Int32) (y11 : Int64) (A : xM) (L : xL) (R_47 : Int32 → xM → xL → Prop) (R_57 : Int32 → xM → xL → Prop) (post : xM → xL → Prop) : Prop := v_X6_may (3 : Int32) A L (fun (r_1 : Int32) => ((r_1 = 0 → (∀ x8_3 : Int32, x8_3 = x8 + (1 : Int32) → (R_57 x8_3 A L))) ∧ (¬ r_1 = 0 → (¬ x10 = 0 ∧ ((¬ (x9 - x9 / x10 * x10) = 0 → (∀ x8_6 : Int32, x8_6 = x8 + (1 : Int32) → (R_57 x8_6 A L))) ∧ ((x9 - x9 / x10 * x10) = 0 → (¬ x10 = 0 ∧ (v_X6_add x1 ((x9 / x10)).toInt64 y11 A L (fun (A_8 : xM) (L_9 : xL) => (∀ x8_10 : Int32, x8_10 = x8 + (1 : Int32) → (R_57 x8_10 A_8 L_9)))))))))))
def v_X6_join_165 (x1 : Int32) (x2 : Int32) (x3 : Int32) (x4 : Int32) (x5 : Int32) (x6 : Int32) (x7 : Int32) (x8 : Int32) (x9 : Int32) (x10 : Int32) (y11 : Int64) (A : xM) (L : xL) (R_47 : Int32 → xM → xL → Prop) (R_57 : Int32 → xM → xL → Prop) (post : xM → xL → Prop) : Prop := (x4 = 0 → (v_X6_join_192 x1 x2 x3 x4 x5 x6 x7 x8 x9 x10 y11 A L R_47 R_57 post)) ∧ (¬ x4 = 0 → (v_X6_may (2 : Int32) A L (fun (r_2 : Int32) => ((r_2 = 0 → (v_X6_join_192 x1 x2 x3 x4 x5 x6 x7 x8 x9 x10 y11 A L R_47 R_57 post)) ∧ (¬ r_2 = 0 → (v_X6_add x1 ((x9).toInt64 * (x10).toInt64) y11 A L (fun (A_4 : xM) (L_5 : xL) => (v_X6_join_192 x1 x2 x3 x4 x5 x6 x7 x8 x9 x10 y11 A_4 L_5 R_47 R_57 post))))))))
def v_X6_join_137 (x1 : Int32) (x2 : Int32) (x3 : Int32) (x4 : Int32) (x5 : Int32) (x6 : Int32) (x7 : Int32) (x8 : Int32) (x9 : Int32) (x10 : Int32) (y11 : Int64) (A : xM) (L : xL) (R_47 : Int32 → xM → xL → Prop) (R_57 : Int32 → xM → xL → Prop) (post : xM → xL → Prop) : Prop := v_X6_may (1 : Int32) A L (fun (r_1 : Int32) => ((r_1 = 0 → (v_X6_join_165 x1 x2 x3 x4 x5 x6 x7 x8 x9 x10 y11 A L R_47 R_57 post)) ∧ (¬ r_1 = 0 → ((x9 ≤ x10 → (v_X6_join_165 x1 x2 x3 x4 x5 x6 x7 x8 x9 x10 y11 A L R_47 R_57 post)) ∧ (¬ x9 ≤ x10 → (v_X6_add x1 ((x9 - x10)).toInt64 y11 A L (fun (A_4 : xM) (L_5 : xL) => (v_X6_join_165 x1 x2 x3 x4 x5 x6 x7 x8 x9 x10 y11 A_4 L_5 R_47 R_57 post))))))))
def v_X6_join_57 (x1 : Int32) (x2 : Int32) (x3 : Int32) (x4 : Int32) (x5 : Int32) (x6 : Int32) (x7 : Int32) (R_47 : Int32 → xM → xL → Prop) (post : xM → xL → Prop) : Nat → Int32 → xM → xL → Prop
  | 0, _, _, _ => False
  | n + 1, x8, A, L => (x6 ≤ x8 → (∀ x7_2 : Int32, x7_2 = x7 + (1 : Int32) → (R_47 x7_2 A L))) ∧ (¬ x6 ≤ x8 → (vp_in x7 3001 ∧ (∀ x9_4 : Int32, x9_4 = (A 29 x7.toNatClampNeg) → (vp_in x8 3001 ∧ (∀ x10_6 : Int32, x10_6 = (A 30 x8.toNatClampNeg) → (vp_in (((3001 : Int32) * x2) + x9_4) 192064 ∧ (vp_in (((3001 : Int32) * x3) + x10_6) 192064 ∧ (∀ y11_9 : Int64, y11_9 = ((L 28 (((3001 : Int32) * x2) + x9_4).toNatClampNeg) * (L 28 (((3001 : Int32) * x3) + x10_6).toNatClampNeg)) → ((x4 = 0 → (v_X6_join_137 x1 x2 x3 x4 x5 x6 x7 x8 x9_4 x10_6 y11_9 A L R_47 (fun x8 A L => v_X6_join_57 x1 x2 x3 x4 x5 x6 x7 R_47 post n x8 A L) post)) ∧ (¬ x4 = 0 → (v_X6_may (0 : Int32) A L (fun (r_11 : Int32) => ((r_11 = 0 → (v_X6_join_137 x1 x2 x3 x4 x5 x6 x7 x8 x9_4 x10_6 y11_9 A L R_47 (fun x8 A L => v_X6_join_57 x1 x2 x3 x4 x5 x6 x7 R_47 post n x8 A L) post)) ∧ (¬ r_11 = 0 → (v_X6_add x1 ((x9_4 + x10_6)).toInt64 y11_9 A L (fun (A_13 : xM) (L_14 : xL) => (v_X6_join_137 x1 x2 x3 x4 x5 x6 x7 x8 x9_4 x10_6 y11_9 A_13 L_14 R_47 (fun x8 A L => v_X6_join_57 x1 x2 x3 x4 x5 x6 x7 R_47 post n x8 A L) post)))))))))))))))))
def v_X6_join_47 (x1 : Int32) (x2 : Int32) (x3 : Int32) (x4 : Int32) (x5 : Int32) (x6 : Int32) (post : xM → xL → Prop) : Nat → Int32 → xM → xL → Prop
  | 0, _, _, _ => False
  | n + 1, x7, A, L => (x5 ≤ x7 → (post A L)) ∧ (¬ x5 ≤ x7 → (∃ k9 : Nat, v_X6_join_57 x1 x2 x3 x4 x5 x6 x7 (fun x7 A L => v_X6_join_47 x1 x2 x3 x4 x5 x6 post n x7 A L) post k9 (0 : Int32) A L))
def v_X6_join_20 (x1 : Int32) (x2 : Int32) (x3 : Int32) (s0 : Int32) (A : xM) (L : xL) (post : xM → xL → Prop) : Prop := v_X6_listOf 29 x2 A L (fun (r_1 : Int32) (A_2 : xM) (L_3 : xL) => (v_X6_listOf 30 x3 A_2 L_3 (fun (r_4 : Int32) (A_5 : xM) (L_6 : xL) => (∃ k9 : Nat, v_X6_join_47 x1 x2 x3 s0 r_1 r_4 post k9 (0 : Int32) A_5 L_6))))
def v_X6_join (x1 : Int32) (x2 : Int32) (A : xM) (L : xL) (post : xM → xL → Prop) : Prop := ∀ x3_1 : Int32, x3_1 = (x1 &&& (x2 ^^^ (-1 : Int32))) → ((((x2 &&& x1) &&& (-x1)) = 0 → (v_X6_join_20 x1 x2 x3_1 (0 : Int32) A L post)) ∧ (¬ ((x2 &&& x1) &&& (-x1)) = 0 → (v_X6_join_20 x1 x2 x3_1 (1 : Int32) A L post)))
section MECH
variable {p : Program} {l : Launch} {e : Env} {s : State} {m : MethodId} {args : Array Value} {below : List Frame} {meth : Method} {c : Code} {G : xGt}
set_option maxHeartbeats 4000000 in
set_option maxRecDepth 100000 in
theorem t_X6_join_192 (C0 : xC p s m args meth c G cX6_join none wsX6_join RX6 13) {post : xM → xL → Prop} {x1 : Int32} {x2 : Int32} {x3 : Int32} {x4 : Int32} {x5 : Int32} {x6 : Int32} {x7 : Int32} {x8 : Int32} {x9 : Int32} {x10 : Int32} {y11 : Int64} {A : xM} {L : xL} {R_47 : Int32 → xM → xL → Prop} (hR_47 : ∀ (x7 : Int32) (A : xM) (L : xL) (H : Heap) (locs : List Loc) (ls : Array Slot), xW G s.heap A L H locs → lv_has ls 13 [(0, .ref (xad G 23)), (1, .int x1), (2, .int x2), (3, .int x3), (4, .int x4), (5, .int x5), (6, .int x6), (7, .int x7)] → R_47 x7 A L → W p l e rX6_join s m args below meth c H locs 0 0 (MQ below (xQv G post) args s 0 0 (xAf G)) (F0 m 47 ls [])) {R_57 : Int32 → xM → xL → Prop} (hR_57 : ∀ (x8 : Int32) (A : xM) (L : xL) (H : Heap) (locs : List Loc) (ls : Array Slot), xW G s.heap A L H locs → lv_has ls 13 [(0, .ref (xad G 23)), (1, .int x1), (2, .int x2), (3, .int x3), (4, .int x4), (5, .int x5), (6, .int x6), (7, .int x7), (8, .int x8)] → R_57 x8 A L → W p l e rX6_join s m args below meth c H locs 0 0 (MQ below (xQv G post) args s 0 0 (xAf G)) (F0 m 57 ls [])) {H : Heap} {locs : List Loc} {ls : Array Slot} (hw : xW G s.heap A L H locs) (hl : lv_has ls 13 [(0, .ref (xad G 23)), (1, .int x1), (2, .int x2), (3, .int x3), (4, .int x4), (5, .int x5), (6, .int x6), (7, .int x7), (8, .int x8), (9, .int x9), (10, .int x10), (11, .long y11)]) (h : v_X6_join_192 x1 x2 x3 x4 x5 x6 x7 x8 x9 x10 y11 A L R_47 R_57 post) : W p l e rX6_join s m args below meth c H locs 0 0 (MQ below (xQv G post) args s 0 0 (xAf G)) (F0 m 192 ls []) := by
  obtain ⟨hx, hb, hr, hts, hown, hml, hlocks, hG⟩ := id C0
  unfold v_X6_join_192 at h
  refine lv_aload_n hx hb dX6_join_192 rfl (lv_at hl 0 rfl) ?_
  refine lv_iconst (v := 3) hx hb dX6_join_193 (by decide) ?_
  refine x_calli hG hw (va_runV (As := [.int (3 : Int32)]) (rest := []) ⟨hx, hb, hml, hown, hts⟩ (c_X6_may (l := l) (G := G) h) (cwV 1 hts gX6_join_X6_may rfl rfl rfl (by decide +kernel) ⟨Nat.le_of_ble_eq_true rfl, Nat.le_of_ble_eq_true rfl⟩) (x_preV hG hw xO23 rfl) rfl rfl hl.1 rfl (lv_room (Nat.le_of_ble_eq_true rfl)) dX6_join_194 ⟨Nat.le_of_ble_eq_true rfl, Nat.le_of_ble_eq_true rfl⟩) (fun r_1 A9 L9 H locs hw h => ?_)
  rw [h.2.1, h.2.2] at hw
  have h := h.1
  refine lv_if_eq (tgt := 221) hx hb dX6_join_197 (by decide) (fun c_2 => ?_) (fun c_2 => ?_)
  · have h := h.1 c_2
    obtain ⟨x8_3, ex8_3⟩ : ∃ y : Int32, y = x8 + (1 : Int32) := ⟨_, rfl⟩
    have h := h x8_3 ex8_3
    refine lv_iinc (v := x8_3) (lv' := [(8, .int x8_3), (0, .ref (xad G 23)), (1, .int x1), (2, .int x2), (3, .int x3), (4, .int x4), (5, .int x5), (6, .int x6), (7, .int x7), (9, .int x9), (10, .int x10), (11, .long y11)]) hx hb dX6_join_221 hl (k := 8) rfl (by rw [ex8_3]; rfl) (by decide) rfl (fun ls hl => ?_)
    refine lv_goto (tgt := 57) hx hb dX6_join_224 (by decide) ?_
    exact hR_57 x8_3 A L _ _ _ hw (lv_sub hl [1, 2, 3, 4, 5, 6, 7, 8, 0] rfl) h
  · have h := h.2 c_2
    refine lv_iload hx hb dX6_join_200 (lv_at hl 9 rfl) ?_
    refine lv_iload hx hb dX6_join_202 (lv_at hl 10 rfl) ?_
    have z_4 := h.1
    have h := h.2
    refine lv_irem hx hb dX6_join_204 z_4 ?_
    refine lv_if_ne (tgt := 221) hx hb dX6_join_205 (by decide) (fun c_5 => ?_) (fun c_5 => ?_)
    · have h := h.1 c_5
      obtain ⟨x8_6, ex8_6⟩ : ∃ y : Int32, y = x8 + (1 : Int32) := ⟨_, rfl⟩
      have h := h x8_6 ex8_6
      refine lv_iinc (v := x8_6) (lv' := [(8, .int x8_6), (0, .ref (xad G 23)), (1, .int x1), (2, .int x2), (3, .int x3), (4, .int x4), (5, .int x5), (6, .int x6), (7, .int x7), (9, .int x9), (10, .int x10), (11, .long y11)]) hx hb dX6_join_221 hl (k := 8) rfl (by rw [ex8_6]; rfl) (by decide) rfl (fun ls hl => ?_)
      refine lv_goto (tgt := 57) hx hb dX6_join_224 (by decide) ?_
      exact hR_57 x8_6 A L _ _ _ hw (lv_sub hl [1, 2, 3, 4, 5, 6, 7, 8, 0] rfl) h
    · have h := h.2 c_5
      refine lv_aload_n hx hb dX6_join_208 rfl (lv_at hl 0 rfl) ?_
      refine lv_iload_n hx hb dX6_join_209 rfl (lv_at hl 1 rfl) ?_
      refine lv_iload hx hb dX6_join_210 (lv_at hl 9 rfl) ?_
      refine lv_iload hx hb dX6_join_212 (lv_at hl 10 rfl) ?_
      have z_7 := h.1
      have h := h.2
      refine lv_idiv hx hb dX6_join_214 z_7 ?_
      refine lv_i2l hx hb dX6_join_215 rfl ?_
      refine lv_lload hx hb dX6_join_216 (lv_at hl 11 rfl) ?_
      refine x_callv hG hw (va_runV (As := [.int x1, .long ((x9 / x10)).toInt64, .long y11]) (rest := []) ⟨hx, hb, hml, hown, hts⟩ (c_X6_add (l := l) (G := G) h) (cwV 3 hts gX6_join_X6_add rfl rfl rfl (by decide +kernel) ⟨Nat.le_of_ble_eq_true rfl, Nat.le_of_ble_eq_true rfl⟩) (x_preV hG hw xO23 rfl) rfl rfl hl.1 rfl (lv_room (Nat.le_of_ble_eq_true rfl)) dX6_join_218 ⟨Nat.le_of_ble_eq_true rfl, Nat.le_of_ble_eq_true rfl⟩) (fun A_8 L_9 H locs hw h => ?_)
      obtain ⟨x8_10, ex8_10⟩ : ∃ y : Int32, y = x8 + (1 : Int32) := ⟨_, rfl⟩
      have h := h x8_10 ex8_10
      refine lv_iinc (v := x8_10) (lv' := [(8, .int x8_10), (0, .ref (xad G 23)), (1, .int x1), (2, .int x2), (3, .int x3), (4, .int x4), (5, .int x5), (6, .int x6), (7, .int x7), (9, .int x9), (10, .int x10), (11, .long y11)]) hx hb dX6_join_221 hl (k := 8) rfl (by rw [ex8_10]; rfl) (by decide) rfl (fun ls hl => ?_)
      refine lv_goto (tgt := 57) hx hb dX6_join_224 (by decide) ?_
      exact hR_57 x8_10 A_8 L_9 _ _ _ hw (lv_sub hl [1, 2, 3, 4, 5, 6, 7, 8, 0] rfl) h
set_option maxHeartbeats 4000000 in
set_option maxRecDepth 100000 in
theorem t_X6_join_165 (C0 : xC p s m args meth c G cX6_join none wsX6_join RX6 13) {post : xM → xL → Prop} {x1 : Int32} {x2 : Int32} {x3 : Int32} {x4 : Int32} {x5 : Int32} {x6 : Int32} {x7 : Int32} {x8 : Int32} {x9 : Int32} {x10 : Int32} {y11 : Int64} {A : xM} {L : xL} {R_47 : Int32 → xM → xL → Prop} (hR_47 : ∀ (x7 : Int32) (A : xM) (L : xL) (H : Heap) (locs : List Loc) (ls : Array Slot), xW G s.heap A L H locs → lv_has ls 13 [(0, .ref (xad G 23)), (1, .int x1), (2, .int x2), (3, .int x3), (4, .int x4), (5, .int x5), (6, .int x6), (7, .int x7)] → R_47 x7 A L → W p l e rX6_join s m args below meth c H locs 0 0 (MQ below (xQv G post) args s 0 0 (xAf G)) (F0 m 47 ls [])) {R_57 : Int32 → xM → xL → Prop} (hR_57 : ∀ (x8 : Int32) (A : xM) (L : xL) (H : Heap) (locs : List Loc) (ls : Array Slot), xW G s.heap A L H locs → lv_has ls 13 [(0, .ref (xad G 23)), (1, .int x1), (2, .int x2), (3, .int x3), (4, .int x4), (5, .int x5), (6, .int x6), (7, .int x7), (8, .int x8)] → R_57 x8 A L → W p l e rX6_join s m args below meth c H locs 0 0 (MQ below (xQv G post) args s 0 0 (xAf G)) (F0 m 57 ls [])) {H : Heap} {locs : List Loc} {ls : Array Slot} (hw : xW G s.heap A L H locs) (hl : lv_has ls 13 [(0, .ref (xad G 23)), (1, .int x1), (2, .int x2), (3, .int x3), (4, .int x4), (5, .int x5), (6, .int x6), (7, .int x7), (8, .int x8), (9, .int x9), (10, .int x10), (11, .long y11)]) (h : v_X6_join_165 x1 x2 x3 x4 x5 x6 x7 x8 x9 x10 y11 A L R_47 R_57 post) : W p l e rX6_join s m args below meth c H locs 0 0 (MQ below (xQv G post) args s 0 0 (xAf G)) (F0 m 165 ls []) := by
  obtain ⟨hx, hb, hr, hts, hown, hml, hlocks, hG⟩ := id C0
  unfold v_X6_join_165 at h
  refine lv_iload hx hb dX6_join_165 (lv_at hl 4 rfl) ?_
  refine lv_if_eq (tgt := 192) hx hb dX6_join_167 (by decide) (fun c_1 => ?_) (fun c_1 => ?_)
  · have h := h.1 c_1
    exact t_X6_join_192 C0 hR_47 hR_57 hw (lv_sub hl [0, 1, 2, 3, 4, 5, 6, 7, 8, 9, 10, 11] rfl) h
  · have h := h.2 c_1
    refine lv_aload_n hx hb dX6_join_170 rfl (lv_at hl 0 rfl) ?_
    refine lv_iconst (v := 2) hx hb dX6_join_171 (by decide) ?_
    refine x_calli hG hw (va_runV (As := [.int (2 : Int32)]) (rest := []) ⟨hx, hb, hml, hown, hts⟩ (c_X6_may (l := l) (G := G) h) (cwV 1 hts gX6_join_X6_may rfl rfl rfl (by decide +kernel) ⟨Nat.le_of_ble_eq_true rfl, Nat.le_of_ble_eq_true rfl⟩) (x_preV hG hw xO23 rfl) rfl rfl hl.1 rfl (lv_room (Nat.le_of_ble_eq_true rfl)) dX6_join_172 ⟨Nat.le_of_ble_eq_true rfl, Nat.le_of_ble_eq_true rfl⟩) (fun r_2 A9 L9 H locs hw h => ?_)
    rw [h.2.1, h.2.2] at hw
    have h := h.1
    refine lv_if_eq (tgt := 192) hx hb dX6_join_175 (by decide) (fun c_3 => ?_) (fun c_3 => ?_)
    · have h := h.1 c_3
      exact t_X6_join_192 C0 hR_47 hR_57 hw (lv_sub hl [0, 1, 2, 3, 4, 5, 6, 7, 8, 9, 10, 11] rfl) h
    · have h := h.2 c_3
      refine lv_aload_n hx hb dX6_join_178 rfl (lv_at hl 0 rfl) ?_
      refine lv_iload_n hx hb dX6_join_179 rfl (lv_at hl 1 rfl) ?_
      refine lv_iload hx hb dX6_join_180 (lv_at hl 9 rfl) ?_
      refine lv_i2l hx hb dX6_join_182 rfl ?_
      refine lv_iload hx hb dX6_join_183 (lv_at hl 10 rfl) ?_
      refine lv_i2l hx hb dX6_join_185 rfl ?_
      refine lv_lmul hx hb dX6_join_186 ?_
      refine lv_lload hx hb dX6_join_187 (lv_at hl 11 rfl) ?_
      refine x_callv hG hw (va_runV (As := [.int x1, .long ((x9).toInt64 * (x10).toInt64), .long y11]) (rest := []) ⟨hx, hb, hml, hown, hts⟩ (c_X6_add (l := l) (G := G) h) (cwV 3 hts gX6_join_X6_add rfl rfl rfl (by decide +kernel) ⟨Nat.le_of_ble_eq_true rfl, Nat.le_of_ble_eq_true rfl⟩) (x_preV hG hw xO23 rfl) rfl rfl hl.1 rfl (lv_room (Nat.le_of_ble_eq_true rfl)) dX6_join_189 ⟨Nat.le_of_ble_eq_true rfl, Nat.le_of_ble_eq_true rfl⟩) (fun A_4 L_5 H locs hw h => ?_)
      exact t_X6_join_192 C0 hR_47 hR_57 hw (lv_sub hl [0, 1, 2, 3, 4, 5, 6, 7, 8, 9, 10, 11] rfl) h
set_option maxHeartbeats 4000000 in
set_option maxRecDepth 100000 in
theorem t_X6_join_137 (C0 : xC p s m args meth c G cX6_join none wsX6_join RX6 13) {post : xM → xL → Prop} {x1 : Int32} {x2 : Int32} {x3 : Int32} {x4 : Int32} {x5 : Int32} {x6 : Int32} {x7 : Int32} {x8 : Int32} {x9 : Int32} {x10 : Int32} {y11 : Int64} {A : xM} {L : xL} {R_47 : Int32 → xM → xL → Prop} (hR_47 : ∀ (x7 : Int32) (A : xM) (L : xL) (H : Heap) (locs : List Loc) (ls : Array Slot), xW G s.heap A L H locs → lv_has ls 13 [(0, .ref (xad G 23)), (1, .int x1), (2, .int x2), (3, .int x3), (4, .int x4), (5, .int x5), (6, .int x6), (7, .int x7)] → R_47 x7 A L → W p l e rX6_join s m args below meth c H locs 0 0 (MQ below (xQv G post) args s 0 0 (xAf G)) (F0 m 47 ls [])) {R_57 : Int32 → xM → xL → Prop} (hR_57 : ∀ (x8 : Int32) (A : xM) (L : xL) (H : Heap) (locs : List Loc) (ls : Array Slot), xW G s.heap A L H locs → lv_has ls 13 [(0, .ref (xad G 23)), (1, .int x1), (2, .int x2), (3, .int x3), (4, .int x4), (5, .int x5), (6, .int x6), (7, .int x7), (8, .int x8)] → R_57 x8 A L → W p l e rX6_join s m args below meth c H locs 0 0 (MQ below (xQv G post) args s 0 0 (xAf G)) (F0 m 57 ls [])) {H : Heap} {locs : List Loc} {ls : Array Slot} (hw : xW G s.heap A L H locs) (hl : lv_has ls 13 [(0, .ref (xad G 23)), (1, .int x1), (2, .int x2), (3, .int x3), (4, .int x4), (5, .int x5), (6, .int x6), (7, .int x7), (8, .int x8), (9, .int x9), (10, .int x10), (11, .long y11)]) (h : v_X6_join_137 x1 x2 x3 x4 x5 x6 x7 x8 x9 x10 y11 A L R_47 R_57 post) : W p l e rX6_join s m args below meth c H locs 0 0 (MQ below (xQv G post) args s 0 0 (xAf G)) (F0 m 137 ls []) := by
  obtain ⟨hx, hb, hr, hts, hown, hml, hlocks, hG⟩ := id C0
  unfold v_X6_join_137 at h
  refine lv_aload_n hx hb dX6_join_137 rfl (lv_at hl 0 rfl) ?_
  refine lv_iconst (v := 1) hx hb dX6_join_138 (by decide) ?_
  refine x_calli hG hw (va_runV (As := [.int (1 : Int32)]) (rest := []) ⟨hx, hb, hml, hown, hts⟩ (c_X6_may (l := l) (G := G) h) (cwV 1 hts gX6_join_X6_may rfl rfl rfl (by decide +kernel) ⟨Nat.le_of_ble_eq_true rfl, Nat.le_of_ble_eq_true rfl⟩) (x_preV hG hw xO23 rfl) rfl rfl hl.1 rfl (lv_room (Nat.le_of_ble_eq_true rfl)) dX6_join_139 ⟨Nat.le_of_ble_eq_true rfl, Nat.le_of_ble_eq_true rfl⟩) (fun r_1 A9 L9 H locs hw h => ?_)
  rw [h.2.1, h.2.2] at hw
  have h := h.1
  refine lv_if_eq (tgt := 165) hx hb dX6_join_142 (by decide) (fun c_2 => ?_) (fun c_2 => ?_)
  · have h := h.1 c_2
    exact t_X6_join_165 C0 hR_47 hR_57 hw (lv_sub hl [0, 1, 2, 3, 4, 5, 6, 7, 8, 9, 10, 11] rfl) h
  · have h := h.2 c_2
    refine lv_iload hx hb dX6_join_145 (lv_at hl 9 rfl) ?_
    refine lv_iload hx hb dX6_join_147 (lv_at hl 10 rfl) ?_
    refine lv_icmp_le (tgt := 165) hx hb dX6_join_149 (by decide) (fun c_3 => ?_) (fun c_3 => ?_)
    · have h := h.1 c_3
      exact t_X6_join_165 C0 hR_47 hR_57 hw (lv_sub hl [0, 1, 2, 3, 4, 5, 6, 7, 8, 9, 10, 11] rfl) h
    · have h := h.2 c_3
      refine lv_aload_n hx hb dX6_join_152 rfl (lv_at hl 0 rfl) ?_
      refine lv_iload_n hx hb dX6_join_153 rfl (lv_at hl 1 rfl) ?_
      refine lv_iload hx hb dX6_join_154 (lv_at hl 9 rfl) ?_
      refine lv_iload hx hb dX6_join_156 (lv_at hl 10 rfl) ?_
      refine lv_isub hx hb dX6_join_158 ?_
      refine lv_i2l hx hb dX6_join_159 rfl ?_
      refine lv_lload hx hb dX6_join_160 (lv_at hl 11 rfl) ?_
      refine x_callv hG hw (va_runV (As := [.int x1, .long ((x9 - x10)).toInt64, .long y11]) (rest := []) ⟨hx, hb, hml, hown, hts⟩ (c_X6_add (l := l) (G := G) h) (cwV 3 hts gX6_join_X6_add rfl rfl rfl (by decide +kernel) ⟨Nat.le_of_ble_eq_true rfl, Nat.le_of_ble_eq_true rfl⟩) (x_preV hG hw xO23 rfl) rfl rfl hl.1 rfl (lv_room (Nat.le_of_ble_eq_true rfl)) dX6_join_162 ⟨Nat.le_of_ble_eq_true rfl, Nat.le_of_ble_eq_true rfl⟩) (fun A_4 L_5 H locs hw h => ?_)
      exact t_X6_join_165 C0 hR_47 hR_57 hw (lv_sub hl [0, 1, 2, 3, 4, 5, 6, 7, 8, 9, 10, 11] rfl) h
set_option maxHeartbeats 4000000 in
set_option maxRecDepth 100000 in
theorem t_X6_join_57 (C0 : xC p s m args meth c G cX6_join none wsX6_join RX6 13) {post : xM → xL → Prop} {x1 : Int32} {x2 : Int32} {x3 : Int32} {x4 : Int32} {x5 : Int32} {x6 : Int32} {x7 : Int32} {R_47 : Int32 → xM → xL → Prop} (hR_47 : ∀ (x7 : Int32) (A : xM) (L : xL) (H : Heap) (locs : List Loc) (ls : Array Slot), xW G s.heap A L H locs → lv_has ls 13 [(0, .ref (xad G 23)), (1, .int x1), (2, .int x2), (3, .int x3), (4, .int x4), (5, .int x5), (6, .int x6), (7, .int x7)] → R_47 x7 A L → W p l e rX6_join s m args below meth c H locs 0 0 (MQ below (xQv G post) args s 0 0 (xAf G)) (F0 m 47 ls [])) : ∀ (n : Nat) (x8 : Int32) (A : xM) (L : xL) (H : Heap) (locs : List Loc) (ls : Array Slot), xW G s.heap A L H locs → lv_has ls 13 [(0, .ref (xad G 23)), (1, .int x1), (2, .int x2), (3, .int x3), (4, .int x4), (5, .int x5), (6, .int x6), (7, .int x7), (8, .int x8)] → v_X6_join_57 x1 x2 x3 x4 x5 x6 x7 R_47 post n x8 A L → W p l e rX6_join s m args below meth c H locs 0 0 (MQ below (xQv G post) args s 0 0 (xAf G)) (F0 m 57 ls []) := by
  obtain ⟨hx, hb, hr, hts, hown, hml, hlocks, hG⟩ := id C0
  intro n
  induction n with
  | zero => intro x8 A L H locs ls hw hl h; exact (show False from h).elim
  | succ n ih =>
    intro x8 A L H locs ls hw hl h
    unfold v_X6_join_57 at h
    refine lv_iload hx hb dX6_join_57 (lv_at hl 8 rfl) ?_
    refine lv_iload hx hb dX6_join_59 (lv_at hl 6 rfl) ?_
    refine lv_icmp_ge (tgt := 227) hx hb dX6_join_61 (by decide) (fun c_1 => ?_) (fun c_1 => ?_)
    · have h := h.1 c_1
      obtain ⟨x7_2, ex7_2⟩ : ∃ y : Int32, y = x7 + (1 : Int32) := ⟨_, rfl⟩
      have h := h x7_2 ex7_2
      refine lv_iinc (v := x7_2) (lv' := [(7, .int x7_2), (0, .ref (xad G 23)), (1, .int x1), (2, .int x2), (3, .int x3), (4, .int x4), (5, .int x5), (6, .int x6), (8, .int x8)]) hx hb dX6_join_227 hl (k := 7) rfl (by rw [ex7_2]; rfl) (by decide) rfl (fun ls hl => ?_)
      refine lv_goto (tgt := 47) hx hb dX6_join_230 (by decide) ?_
      exact hR_47 x7_2 A L _ _ _ hw (lv_sub hl [1, 2, 3, 4, 5, 6, 7, 0] rfl) h
    · have h := h.2 c_1
      refine lv_aload_n hx hb dX6_join_64 rfl (lv_at hl 0 rfl) ?_
      refine x_get (C := RX6) (T := TX6) (N := 20) hx hb hts inX6_join_X6 hown hG hw xO23 rfl 11 (by decide) (hts (.fieldLink RX6 34 "SixNumbersModel" "lefts" "[I") (List.mem_of_getElem? (i := 1) rfl)) (fun _ h9 => h9) (v := .ref (xad G 29)) rfl dX6_join_65 ?_
      refine lv_iload hx hb dX6_join_68 (lv_at hl 7 rfl) ?_
      have i_3 := h.1
      have h := h.2
      refine x_iald hx hb hG hw xb29 i_3 dX6_join_70 ?_
      refine lv_topi (fun x9_4 ex9_4 => ?_)
      have h := h x9_4 ex9_4
      refine lv_istore (lv' := [(9, .int x9_4), (0, .ref (xad G 23)), (1, .int x1), (2, .int x2), (3, .int x3), (4, .int x4), (5, .int x5), (6, .int x6), (7, .int x7), (8, .int x8)]) hx hb dX6_join_71 hl (by decide) rfl (fun ls hl => ?_)
      refine lv_aload_n hx hb dX6_join_73 rfl (lv_at hl 1 rfl) ?_
      refine x_get (C := RX6) (T := TX6) (N := 20) hx hb hts inX6_join_X6 hown hG hw xO23 rfl 12 (by decide) (hts (.fieldLink RX6 37 "SixNumbersModel" "rights" "[I") (List.mem_of_getElem? (i := 2) rfl)) (fun _ h9 => h9) (v := .ref (xad G 30)) rfl dX6_join_74 ?_
      refine lv_iload hx hb dX6_join_77 (lv_at hl 9 rfl) ?_
      have i_5 := h.1
      have h := h.2
      refine x_iald hx hb hG hw xb30 i_5 dX6_join_79 ?_
      refine lv_topi (fun x10_6 ex10_6 => ?_)
      have h := h x10_6 ex10_6
      refine lv_istore (lv' := [(10, .int x10_6), (9, .int x9_4), (0, .ref (xad G 23)), (1, .int x1), (2, .int x2), (3, .int x3), (4, .int x4), (5, .int x5), (6, .int x6), (7, .int x7), (8, .int x8)]) hx hb dX6_join_80 hl (by decide) rfl (fun ls hl => ?_)
      refine lv_aload_n hx hb dX6_join_82 rfl (lv_at hl 2 rfl) ?_
      refine x_get (C := RX6) (T := TX6) (N := 20) hx hb hts inX6_join_X6 hown hG hw xO23 rfl 10 (by decide) (hts (.fieldLink RX6 30 "SixNumbersModel" "ways" "[J") (List.mem_of_getElem? (i := 3) rfl)) (fun _ h9 => h9) (v := .ref (xad G 28)) rfl dX6_join_83 ?_
      refine lv_sipush (v := 3001) hx hb dX6_join_86 (by decide) ?_
      refine lv_iload_n hx hb dX6_join_89 rfl (lv_at hl 4 rfl) ?_
      refine lv_imul hx hb dX6_join_90 ?_
      refine lv_iload hx hb dX6_join_91 (lv_at hl 1 rfl) ?_
      refine lv_iadd hx hb dX6_join_93 ?_
      have i_7 := h.1
      have h := h.2
      refine x_lald hx hb hG hw xb28 i_7 dX6_join_94 ?_
      refine lv_aload_n hx hb dX6_join_95 rfl (lv_at hl 2 rfl) ?_
      refine x_get (C := RX6) (T := TX6) (N := 20) hx hb hts inX6_join_X6 hown hG hw xO23 rfl 10 (by decide) (hts (.fieldLink RX6 30 "SixNumbersModel" "ways" "[J") (List.mem_of_getElem? (i := 3) rfl)) (fun _ h9 => h9) (v := .ref (xad G 28)) rfl dX6_join_96 ?_
      refine lv_sipush (v := 3001) hx hb dX6_join_99 (by decide) ?_
      refine lv_iload_n hx hb dX6_join_102 rfl (lv_at hl 5 rfl) ?_
      refine lv_imul hx hb dX6_join_103 ?_
      refine lv_iload hx hb dX6_join_104 (lv_at hl 0 rfl) ?_
      refine lv_iadd hx hb dX6_join_106 ?_
      have i_8 := h.1
      have h := h.2
      refine x_lald hx hb hG hw xb28 i_8 dX6_join_107 ?_
      refine lv_lmul hx hb dX6_join_108 ?_
      refine lv_topl (fun y11_9 ey11_9 => ?_)
      have h := h y11_9 ey11_9
      refine lv_lstore (lv' := [(11, .long y11_9), (10, .int x10_6), (9, .int x9_4), (0, .ref (xad G 23)), (1, .int x1), (2, .int x2), (3, .int x3), (4, .int x4), (5, .int x5), (6, .int x6), (7, .int x7), (8, .int x8)]) hx hb dX6_join_109 hl (by decide) rfl (fun ls hl => ?_)
      refine lv_iload hx hb dX6_join_111 (lv_at hl 7 rfl) ?_
      refine lv_if_eq (tgt := 137) hx hb dX6_join_113 (by decide) (fun c_10 => ?_) (fun c_10 => ?_)
      · have h := h.1 c_10
        exact t_X6_join_137 C0 hR_47 ih hw (lv_sub hl [3, 4, 5, 6, 7, 8, 9, 10, 11, 2, 1, 0] rfl) h
      · have h := h.2 c_10
        refine lv_aload_n hx hb dX6_join_116 rfl (lv_at hl 3 rfl) ?_
        refine lv_iconst (v := 0) hx hb dX6_join_117 (by decide) ?_
        refine x_calli hG hw (va_runV (As := [.int (0 : Int32)]) (rest := []) ⟨hx, hb, hml, hown, hts⟩ (c_X6_may (l := l) (G := G) h) (cwV 1 hts gX6_join_X6_may rfl rfl rfl (by decide +kernel) ⟨Nat.le_of_ble_eq_true rfl, Nat.le_of_ble_eq_true rfl⟩) (x_preV hG hw xO23 rfl) rfl rfl hl.1 rfl (lv_room (Nat.le_of_ble_eq_true rfl)) dX6_join_118 ⟨Nat.le_of_ble_eq_true rfl, Nat.le_of_ble_eq_true rfl⟩) (fun r_11 A9 L9 H locs hw h => ?_)
        rw [h.2.1, h.2.2] at hw
        have h := h.1
        refine lv_if_eq (tgt := 137) hx hb dX6_join_121 (by decide) (fun c_12 => ?_) (fun c_12 => ?_)
        · have h := h.1 c_12
          exact t_X6_join_137 C0 hR_47 ih hw (lv_sub hl [3, 4, 5, 6, 7, 8, 9, 10, 11, 2, 1, 0] rfl) h
        · have h := h.2 c_12
          refine lv_aload_n hx hb dX6_join_124 rfl (lv_at hl 3 rfl) ?_
          refine lv_iload_n hx hb dX6_join_125 rfl (lv_at hl 4 rfl) ?_
          refine lv_iload hx hb dX6_join_126 (lv_at hl 2 rfl) ?_
          refine lv_iload hx hb dX6_join_128 (lv_at hl 1 rfl) ?_
          refine lv_iadd hx hb dX6_join_130 ?_
          refine lv_i2l hx hb dX6_join_131 rfl ?_
          refine lv_lload hx hb dX6_join_132 (lv_at hl 0 rfl) ?_
          refine x_callv hG hw (va_runV (As := [.int x1, .long ((x9_4 + x10_6)).toInt64, .long y11_9]) (rest := []) ⟨hx, hb, hml, hown, hts⟩ (c_X6_add (l := l) (G := G) h) (cwV 3 hts gX6_join_X6_add rfl rfl rfl (by decide +kernel) ⟨Nat.le_of_ble_eq_true rfl, Nat.le_of_ble_eq_true rfl⟩) (x_preV hG hw xO23 rfl) rfl rfl hl.1 rfl (lv_room (Nat.le_of_ble_eq_true rfl)) dX6_join_134 ⟨Nat.le_of_ble_eq_true rfl, Nat.le_of_ble_eq_true rfl⟩) (fun A_13 L_14 H locs hw h => ?_)
          exact t_X6_join_137 C0 hR_47 ih hw (lv_sub hl [3, 4, 5, 6, 7, 8, 9, 10, 11, 2, 1, 0] rfl) h
set_option maxHeartbeats 4000000 in
set_option maxRecDepth 100000 in
theorem t_X6_join_47 (C0 : xC p s m args meth c G cX6_join none wsX6_join RX6 13) {post : xM → xL → Prop} {x1 : Int32} {x2 : Int32} {x3 : Int32} {x4 : Int32} {x5 : Int32} {x6 : Int32} : ∀ (n : Nat) (x7 : Int32) (A : xM) (L : xL) (H : Heap) (locs : List Loc) (ls : Array Slot), xW G s.heap A L H locs → lv_has ls 13 [(0, .ref (xad G 23)), (1, .int x1), (2, .int x2), (3, .int x3), (4, .int x4), (5, .int x5), (6, .int x6), (7, .int x7)] → v_X6_join_47 x1 x2 x3 x4 x5 x6 post n x7 A L → W p l e rX6_join s m args below meth c H locs 0 0 (MQ below (xQv G post) args s 0 0 (xAf G)) (F0 m 47 ls []) := by
  obtain ⟨hx, hb, hr, hts, hown, hml, hlocks, hG⟩ := id C0
  intro n
  induction n with
  | zero => intro x7 A L H locs ls hw hl h; exact (show False from h).elim
  | succ n ih =>
    intro x7 A L H locs ls hw hl h
    unfold v_X6_join_47 at h
    refine lv_iload hx hb dX6_join_47 (lv_at hl 7 rfl) ?_
    refine lv_iload hx hb dX6_join_49 (lv_at hl 5 rfl) ?_
    refine lv_icmp_ge (tgt := 233) hx hb dX6_join_51 (by decide) (fun c_1 => ?_) (fun c_1 => ?_)
    · have h := h.1 c_1
      exact x_vret hx hb hr hlocks hG hw h dX6_join_233
    · have h := h.2 c_1
      refine lv_iconst (v := 0) hx hb dX6_join_54 (by decide) ?_
      refine lv_istore (lv' := [(8, .int (0 : Int32)), (0, .ref (xad G 23)), (1, .int x1), (2, .int x2), (3, .int x3), (4, .int x4), (5, .int x5), (6, .int x6), (7, .int x7)]) hx hb dX6_join_55 hl (by decide) rfl (fun ls hl => ?_)
      obtain ⟨n9, h⟩ := h
      exact t_X6_join_57 C0 ih n9 (0 : Int32) A L _ _ _ hw (lv_sub hl [1, 2, 3, 4, 5, 6, 7, 8, 0] rfl) h
set_option maxHeartbeats 4000000 in
set_option maxRecDepth 100000 in
theorem t_X6_join_20 (C0 : xC p s m args meth c G cX6_join none wsX6_join RX6 13) {post : xM → xL → Prop} {x1 : Int32} {x2 : Int32} {x3 : Int32} {s0 : Int32} {A : xM} {L : xL} {H : Heap} {locs : List Loc} {ls : Array Slot} (hw : xW G s.heap A L H locs) (hl : lv_has ls 13 [(0, .ref (xad G 23)), (1, .int x1), (2, .int x2), (3, .int x3)]) (h : v_X6_join_20 x1 x2 x3 s0 A L post) : W p l e rX6_join s m args below meth c H locs 0 0 (MQ below (xQv G post) args s 0 0 (xAf G)) (F0 m 20 ls [.int s0]) := by
  obtain ⟨hx, hb, hr, hts, hown, hml, hlocks, hG⟩ := id C0
  unfold v_X6_join_20 at h
  refine lv_istore (lv' := [(4, .int s0), (0, .ref (xad G 23)), (1, .int x1), (2, .int x2), (3, .int x3)]) hx hb dX6_join_20 hl (by decide) rfl (fun ls hl => ?_)
  refine lv_aload_n hx hb dX6_join_22 rfl (lv_at hl 1 rfl) ?_
  refine lv_iload_n hx hb dX6_join_23 rfl (lv_at hl 3 rfl) ?_
  refine lv_aload_n hx hb dX6_join_24 rfl (lv_at hl 1 rfl) ?_
  refine x_get (C := RX6) (T := TX6) (N := 20) hx hb hts inX6_join_X6 hown hG hw xO23 rfl 11 (by decide) (hts (.fieldLink RX6 34 "SixNumbersModel" "lefts" "[I") (List.mem_of_getElem? (i := 1) rfl)) (fun _ h9 => h9) (v := .ref (xad G 29)) rfl dX6_join_25 ?_
  refine x_calli hG hw (va_runV (As := [.int x2, .ref (xad G 29)]) (rest := []) ⟨hx, hb, hml, hown, hts⟩ (c_X6_listOf (l := l) (G := G) xb29 h) (cwV 2 hts gX6_join_X6_listOf rfl rfl rfl (by decide +kernel) ⟨Nat.le_of_ble_eq_true rfl, Nat.le_of_ble_eq_true rfl⟩) (x_preV hG hw xO23 rfl) rfl rfl hl.1 rfl (lv_room (Nat.le_of_ble_eq_true rfl)) dX6_join_28 ⟨Nat.le_of_ble_eq_true rfl, Nat.le_of_ble_eq_true rfl⟩) (fun r_1 A_2 L_3 H locs hw h => ?_)
  refine lv_istore (lv' := [(5, .int r_1), (4, .int s0), (0, .ref (xad G 23)), (1, .int x1), (2, .int x2), (3, .int x3)]) hx hb dX6_join_31 hl (by decide) rfl (fun ls hl => ?_)
  refine lv_aload_n hx hb dX6_join_33 rfl (lv_at hl 2 rfl) ?_
  refine lv_iload_n hx hb dX6_join_34 rfl (lv_at hl 5 rfl) ?_
  refine lv_aload_n hx hb dX6_join_35 rfl (lv_at hl 2 rfl) ?_
  refine x_get (C := RX6) (T := TX6) (N := 20) hx hb hts inX6_join_X6 hown hG hw xO23 rfl 12 (by decide) (hts (.fieldLink RX6 37 "SixNumbersModel" "rights" "[I") (List.mem_of_getElem? (i := 2) rfl)) (fun _ h9 => h9) (v := .ref (xad G 30)) rfl dX6_join_36 ?_
  refine x_calli hG hw (va_runV (As := [.int x3, .ref (xad G 30)]) (rest := []) ⟨hx, hb, hml, hown, hts⟩ (c_X6_listOf (l := l) (G := G) xb30 h) (cwV 2 hts gX6_join_X6_listOf rfl rfl rfl (by decide +kernel) ⟨Nat.le_of_ble_eq_true rfl, Nat.le_of_ble_eq_true rfl⟩) (x_preV hG hw xO23 rfl) rfl rfl hl.1 rfl (lv_room (Nat.le_of_ble_eq_true rfl)) dX6_join_39 ⟨Nat.le_of_ble_eq_true rfl, Nat.le_of_ble_eq_true rfl⟩) (fun r_4 A_5 L_6 H locs hw h => ?_)
  refine lv_istore (lv' := [(6, .int r_4), (5, .int r_1), (4, .int s0), (0, .ref (xad G 23)), (1, .int x1), (2, .int x2), (3, .int x3)]) hx hb dX6_join_42 hl (by decide) rfl (fun ls hl => ?_)
  refine lv_iconst (v := 0) hx hb dX6_join_44 (by decide) ?_
  refine lv_istore (lv' := [(7, .int (0 : Int32)), (6, .int r_4), (5, .int r_1), (4, .int s0), (0, .ref (xad G 23)), (1, .int x1), (2, .int x2), (3, .int x3)]) hx hb dX6_join_45 hl (by decide) rfl (fun ls hl => ?_)
  obtain ⟨n9, h⟩ := h
  exact t_X6_join_47 C0 n9 (0 : Int32) A_5 L_6 _ _ _ hw (lv_sub hl [4, 5, 6, 7, 3, 2, 1, 0] rfl) h
set_option maxHeartbeats 4000000 in
set_option maxRecDepth 100000 in
theorem t_X6_join_0 (C0 : xC p s m args meth c G cX6_join none wsX6_join RX6 13) {post : xM → xL → Prop} {x1 : Int32} {x2 : Int32} {A : xM} {L : xL} {H : Heap} {locs : List Loc} {ls : Array Slot} (hw : xW G s.heap A L H locs) (hl : lv_has ls 13 [(0, .ref (xad G 23)), (1, .int x1), (2, .int x2)]) (h : v_X6_join x1 x2 A L post) : W p l e rX6_join s m args below meth c H locs 0 0 (MQ below (xQv G post) args s 0 0 (xAf G)) (F0 m 0 ls []) := by
  obtain ⟨hx, hb, hr, hts, hown, hml, hlocks, hG⟩ := id C0
  unfold v_X6_join at h
  refine lv_iload_n hx hb dX6_join_0 rfl (lv_at hl 1 rfl) ?_
  refine lv_iload_n hx hb dX6_join_1 rfl (lv_at hl 2 rfl) ?_
  refine lv_iconst (v := (-1)) hx hb dX6_join_2 (by decide) ?_
  refine lv_ixor hx hb dX6_join_3 ?_
  refine lv_iand hx hb dX6_join_4 ?_
  refine lv_topi (fun x3_1 ex3_1 => ?_)
  have h := h x3_1 ex3_1
  refine lv_istore_n (lv' := [(3, .int x3_1), (0, .ref (xad G 23)), (1, .int x1), (2, .int x2)]) hx hb dX6_join_5 rfl hl (by decide) rfl (fun ls hl => ?_)
  refine lv_iload_n hx hb dX6_join_6 rfl (lv_at hl 3 rfl) ?_
  refine lv_iload_n hx hb dX6_join_7 rfl (lv_at hl 2 rfl) ?_
  refine lv_iand hx hb dX6_join_8 ?_
  refine lv_iload_n hx hb dX6_join_9 rfl (lv_at hl 2 rfl) ?_
  refine lv_ineg hx hb dX6_join_10 ?_
  refine lv_iand hx hb dX6_join_11 ?_
  refine lv_if_eq (tgt := 19) hx hb dX6_join_12 (by decide) (fun c_2 => ?_) (fun c_2 => ?_)
  · have h := h.1 c_2
    refine lv_iconst (v := 0) hx hb dX6_join_19 (by decide) ?_
    exact t_X6_join_20 C0 hw (lv_sub hl [1, 2, 3, 0] rfl) h
  · have h := h.2 c_2
    refine lv_iconst (v := 1) hx hb dX6_join_15 (by decide) ?_
    refine lv_goto (tgt := 20) hx hb dX6_join_16 (by decide) ?_
    exact t_X6_join_20 C0 hw (lv_sub hl [1, 2, 3, 0] rfl) h
theorem c_X6_join {l : Launch} {G : xGt} {x1 : Int32} {x2 : Int32} {A : xM} {L : xL} {post : xM → xL → Prop} (h : v_X6_join x1 x2 A L post) : Met l yX6_join wsX6_join rX6_join (va_Pc [.ref (xad G 23), .int x1, .int x2] (xPre G A L)) (xQv G post) 0 0 (xAf G) :=
  x_met RX6 rfl (by decide) rfl (Nat.le_of_ble_eq_true rfl) (fun p e s m below meth c ls C0 hw hl => t_X6_join_0 C0 hw hl h)
end MECH
abbrev rX6_fill : Room := { frames := 2, cells := 0, slots := 0, locals := 57 }
theorem inX6_fill_X6 : ∀ w ∈ wsX60, w ∈ wsX6_fill := fun w h => List.mem_cons_of_mem _ (List.mem_append_right _ h)
def v_X6_fill_86 (x1 : Int32) (R_29 : Int32 → xM → xL → Prop) (post : xM → xL → Prop) : Nat → Int32 → xM → xL → Prop
  | 0, _, _, _ => False
  | n + 1, x2, A, L => (x1 ≤ x2 → (∀ x1_2 : Int32, x1_2 = x1 + (1 : Int32) → (R_29 x1_2 A L))) ∧ (¬ x1 ≤ x2 → ((¬ (x2 &&& (x1 ^^^ (-1 : Int32))) = 0 → (∀ x2_4 : Int32, x2_4 = x2 + (1 : Int32) → (v_X6_fill_86 x1 R_29 post n x2_4 A L))) ∧ ((x2 &&& (x1 ^^^ (-1 : Int32))) = 0 → (v_X6_join x1 x2 A L (fun (A_5 : xM) (L_6 : xL) => (∀ x2_7 : Int32, x2_7 = x2 + (1 : Int32) → (v_X6_fill_86 x1 R_29 post n x2_7 A_5 L_6)))))))
def v_X6_fill_49 (x1 : Int32) (R_29 : Int32 → xM → xL → Prop) (post : xM → xL → Prop) : Nat → Int32 → xM → xL → Prop
  | 0, _, _, _ => False
  | n + 1, x2, A, L => (¬ ((x1 >>> (x2 &&& 31)) &&& (1 : Int32)) = 0 → (vp_in x2 6 ∧ (vp_in (((3001 : Int32) * x1) + (A 27 x2.toNatClampNeg)) 192064 ∧ (∀ L_4 : xL, L_4 = xul L 28 (((3001 : Int32) * x1) + (A 27 x2.toNatClampNeg)).toNatClampNeg (1 : Int64) → (∀ x1_5 : Int32, x1_5 = x1 + (1 : Int32) → (R_29 x1_5 A L_4)))))) ∧ (((x1 >>> (x2 &&& 31)) &&& (1 : Int32)) = 0 → (∀ x2_6 : Int32, x2_6 = x2 + (1 : Int32) → (v_X6_fill_49 x1 R_29 post n x2_6 A L)))
def v_X6_fill_29 (post : xM → xL → Prop) : Nat → Int32 → xM → xL → Prop
  | 0, _, _, _ => False
  | n + 1, x1, A, L => (((1 : Int32) <<< ((A 23 9) &&& 31)) ≤ x1 → (∀ A_2 : xM, A_2 = xu A 23 13 (0 : Int32) → (post A_2 L))) ∧ (¬ ((1 : Int32) <<< ((A 23 9) &&& 31)) ≤ x1 → (v_X6_bits x1 (fun (r_3 : Int32) => ((¬ r_3 = (1 : Int32) → (∃ k9 : Nat, v_X6_fill_86 x1 (fun x1 A L => v_X6_fill_29 post n x1 A L) post k9 (1 : Int32) A L)) ∧ (r_3 = (1 : Int32) → (∃ k9 : Nat, v_X6_fill_49 x1 (fun x1 A L => v_X6_fill_29 post n x1 A L) post k9 (0 : Int32) A L))))))
def v_X6_fill_2 (post : xM → xL → Prop) : Nat → Int32 → xM → xL → Prop
  | 0, _, _, _ => False
  | n + 1, x1, A, L => (((3001 : Int32) <<< ((A 23 9) &&& 31)) ≤ x1 → (∃ k9 : Nat, v_X6_fill_29 post k9 (1 : Int32) A L)) ∧ (¬ ((3001 : Int32) <<< ((A 23 9) &&& 31)) ≤ x1 → (vp_in x1 192064 ∧ (∀ L_3 : xL, L_3 = xul L 28 x1.toNatClampNeg (0 : Int64) → (∀ x1_4 : Int32, x1_4 = x1 + (1 : Int32) → (v_X6_fill_2 post n x1_4 A L_3)))))
def v_X6_fill (A : xM) (L : xL) (post : xM → xL → Prop) : Prop := ∃ k9 : Nat, v_X6_fill_2 post k9 (0 : Int32) A L
section MECH
variable {p : Program} {l : Launch} {e : Env} {s : State} {m : MethodId} {args : Array Value} {below : List Frame} {meth : Method} {c : Code} {G : xGt}
set_option maxHeartbeats 4000000 in
set_option maxRecDepth 100000 in
theorem t_X6_fill_86 (C0 : xC p s m args meth c G cX6_fill none wsX6_fill RX6 3) {post : xM → xL → Prop} {x1 : Int32} {R_29 : Int32 → xM → xL → Prop} (hR_29 : ∀ (x1 : Int32) (A : xM) (L : xL) (H : Heap) (locs : List Loc) (ls : Array Slot), xW G s.heap A L H locs → lv_has ls 3 [(0, .ref (xad G 23)), (1, .int x1)] → R_29 x1 A L → W p l e rX6_fill s m args below meth c H locs 0 0 (MQ below (xQv G post) args s 0 0 (xAf G)) (F0 m 29 ls [])) : ∀ (n : Nat) (x2 : Int32) (A : xM) (L : xL) (H : Heap) (locs : List Loc) (ls : Array Slot), xW G s.heap A L H locs → lv_has ls 3 [(0, .ref (xad G 23)), (1, .int x1), (2, .int x2)] → v_X6_fill_86 x1 R_29 post n x2 A L → W p l e rX6_fill s m args below meth c H locs 0 0 (MQ below (xQv G post) args s 0 0 (xAf G)) (F0 m 86 ls []) := by
  obtain ⟨hx, hb, hr, hts, hown, hml, hlocks, hG⟩ := id C0
  intro n
  induction n with
  | zero => intro x2 A L H locs ls hw hl h; exact (show False from h).elim
  | succ n ih =>
    intro x2 A L H locs ls hw hl h
    unfold v_X6_fill_86 at h
    refine lv_iload_n hx hb dX6_fill_86 rfl (lv_at hl 2 rfl) ?_
    refine lv_iload_n hx hb dX6_fill_87 rfl (lv_at hl 1 rfl) ?_
    refine lv_icmp_ge (tgt := 111) hx hb dX6_fill_88 (by decide) (fun c_1 => ?_) (fun c_1 => ?_)
    · have h := h.1 c_1
      obtain ⟨x1_2, ex1_2⟩ : ∃ y : Int32, y = x1 + (1 : Int32) := ⟨_, rfl⟩
      have h := h x1_2 ex1_2
      refine lv_iinc (v := x1_2) (lv' := [(1, .int x1_2), (0, .ref (xad G 23)), (2, .int x2)]) hx hb dX6_fill_111 hl (k := 1) rfl (by rw [ex1_2]; rfl) (by decide) rfl (fun ls hl => ?_)
      refine lv_goto (tgt := 29) hx hb dX6_fill_114 (by decide) ?_
      exact hR_29 x1_2 A L _ _ _ hw (lv_sub hl [1, 0] rfl) h
    · have h := h.2 c_1
      refine lv_iload_n hx hb dX6_fill_91 rfl (lv_at hl 2 rfl) ?_
      refine lv_iload_n hx hb dX6_fill_92 rfl (lv_at hl 1 rfl) ?_
      refine lv_iconst (v := (-1)) hx hb dX6_fill_93 (by decide) ?_
      refine lv_ixor hx hb dX6_fill_94 ?_
      refine lv_iand hx hb dX6_fill_95 ?_
      refine lv_if_ne (tgt := 105) hx hb dX6_fill_96 (by decide) (fun c_3 => ?_) (fun c_3 => ?_)
      · have h := h.1 c_3
        obtain ⟨x2_4, ex2_4⟩ : ∃ y : Int32, y = x2 + (1 : Int32) := ⟨_, rfl⟩
        have h := h x2_4 ex2_4
        refine lv_iinc (v := x2_4) (lv' := [(2, .int x2_4), (0, .ref (xad G 23)), (1, .int x1)]) hx hb dX6_fill_105 hl (k := 2) rfl (by rw [ex2_4]; rfl) (by decide) rfl (fun ls hl => ?_)
        refine lv_goto (tgt := 86) hx hb dX6_fill_108 (by decide) ?_
        exact ih x2_4 A L _ _ _ hw (lv_sub hl [1, 2, 0] rfl) h
      · have h := h.2 c_3
        refine lv_aload_n hx hb dX6_fill_99 rfl (lv_at hl 0 rfl) ?_
        refine lv_iload_n hx hb dX6_fill_100 rfl (lv_at hl 1 rfl) ?_
        refine lv_iload_n hx hb dX6_fill_101 rfl (lv_at hl 2 rfl) ?_
        refine x_callv hG hw (va_runV (As := [.int x1, .int x2]) (rest := []) ⟨hx, hb, hml, hown, hts⟩ (c_X6_join (l := l) (G := G) h) (cwV 2 hts gX6_fill_X6_join rfl rfl rfl (by decide +kernel) ⟨Nat.le_of_ble_eq_true rfl, Nat.le_of_ble_eq_true rfl⟩) (x_preV hG hw xO23 rfl) rfl rfl hl.1 rfl (lv_room (Nat.le_of_ble_eq_true rfl)) dX6_fill_102 ⟨Nat.le_of_ble_eq_true rfl, Nat.le_of_ble_eq_true rfl⟩) (fun A_5 L_6 H locs hw h => ?_)
        obtain ⟨x2_7, ex2_7⟩ : ∃ y : Int32, y = x2 + (1 : Int32) := ⟨_, rfl⟩
        have h := h x2_7 ex2_7
        refine lv_iinc (v := x2_7) (lv' := [(2, .int x2_7), (0, .ref (xad G 23)), (1, .int x1)]) hx hb dX6_fill_105 hl (k := 2) rfl (by rw [ex2_7]; rfl) (by decide) rfl (fun ls hl => ?_)
        refine lv_goto (tgt := 86) hx hb dX6_fill_108 (by decide) ?_
        exact ih x2_7 A_5 L_6 _ _ _ hw (lv_sub hl [1, 2, 0] rfl) h
set_option maxHeartbeats 4000000 in
set_option maxRecDepth 100000 in
theorem t_X6_fill_49 (C0 : xC p s m args meth c G cX6_fill none wsX6_fill RX6 3) {post : xM → xL → Prop} {x1 : Int32} {R_29 : Int32 → xM → xL → Prop} (hR_29 : ∀ (x1 : Int32) (A : xM) (L : xL) (H : Heap) (locs : List Loc) (ls : Array Slot), xW G s.heap A L H locs → lv_has ls 3 [(0, .ref (xad G 23)), (1, .int x1)] → R_29 x1 A L → W p l e rX6_fill s m args below meth c H locs 0 0 (MQ below (xQv G post) args s 0 0 (xAf G)) (F0 m 29 ls [])) : ∀ (n : Nat) (x2 : Int32) (A : xM) (L : xL) (H : Heap) (locs : List Loc) (ls : Array Slot), xW G s.heap A L H locs → lv_has ls 3 [(0, .ref (xad G 23)), (1, .int x1), (2, .int x2)] → v_X6_fill_49 x1 R_29 post n x2 A L → W p l e rX6_fill s m args below meth c H locs 0 0 (MQ below (xQv G post) args s 0 0 (xAf G)) (F0 m 49 ls []) := by
  obtain ⟨hx, hb, hr, hts, hown, hml, hlocks, hG⟩ := id C0
  intro n
  induction n with
  | zero => intro x2 A L H locs ls hw hl h; exact (show False from h).elim
  | succ n ih =>
    intro x2 A L H locs ls hw hl h
    unfold v_X6_fill_49 at h
    refine lv_iload_n hx hb dX6_fill_49 rfl (lv_at hl 1 rfl) ?_
    refine lv_iload_n hx hb dX6_fill_50 rfl (lv_at hl 2 rfl) ?_
    refine lv_ishr hx hb dX6_fill_51 ?_
    refine lv_iconst (v := 1) hx hb dX6_fill_52 (by decide) ?_
    refine lv_iand hx hb dX6_fill_53 ?_
    refine lv_if_ne (tgt := 63) hx hb dX6_fill_54 (by decide) (fun c_1 => ?_) (fun c_1 => ?_)
    · have h := h.1 c_1
      refine lv_aload_n hx hb dX6_fill_63 rfl (lv_at hl 0 rfl) ?_
      refine x_get (C := RX6) (T := TX6) (N := 20) hx hb hts inX6_fill_X6 hown hG hw xO23 rfl 10 (by decide) (hts (.fieldLink RX6 30 "SixNumbersModel" "ways" "[J") (List.mem_of_getElem? (i := 2) rfl)) (fun _ h9 => h9) (v := .ref (xad G 28)) rfl dX6_fill_64 ?_
      refine lv_sipush (v := 3001) hx hb dX6_fill_67 (by decide) ?_
      refine lv_iload_n hx hb dX6_fill_70 rfl (lv_at hl 1 rfl) ?_
      refine lv_imul hx hb dX6_fill_71 ?_
      refine lv_aload_n hx hb dX6_fill_72 rfl (lv_at hl 0 rfl) ?_
      refine x_get (C := RX6) (T := TX6) (N := 20) hx hb hts inX6_fill_X6 hown hG hw xO23 rfl 8 (by decide) (hts (.fieldLink RX6 26 "SixNumbersModel" "work" "[I") (List.mem_of_getElem? (i := 3) rfl)) (fun _ h9 => h9) (v := .ref (xad G 27)) rfl dX6_fill_73 ?_
      refine lv_iload_n hx hb dX6_fill_76 rfl (lv_at hl 2 rfl) ?_
      have i_2 := h.1
      have h := h.2
      refine x_iald hx hb hG hw xb27 i_2 dX6_fill_77 ?_
      refine lv_iadd hx hb dX6_fill_78 ?_
      refine lv_lconst (v := 1) hx hb dX6_fill_79 (by decide) ?_
      have i_3 := h.1
      have h := h.2
      refine x_last hx hb hG hw xb28 i_3 dX6_fill_80 (fun L_4 H locs eL_4 hw => ?_)
      have h := h L_4 eL_4
      refine lv_goto (tgt := 111) hx hb dX6_fill_81 (by decide) ?_
      obtain ⟨x1_5, ex1_5⟩ : ∃ y : Int32, y = x1 + (1 : Int32) := ⟨_, rfl⟩
      have h := h x1_5 ex1_5
      refine lv_iinc (v := x1_5) (lv' := [(1, .int x1_5), (0, .ref (xad G 23)), (2, .int x2)]) hx hb dX6_fill_111 hl (k := 1) rfl (by rw [ex1_5]; rfl) (by decide) rfl (fun ls hl => ?_)
      refine lv_goto (tgt := 29) hx hb dX6_fill_114 (by decide) ?_
      exact hR_29 x1_5 A L_4 _ _ _ hw (lv_sub hl [1, 0] rfl) h
    · have h := h.2 c_1
      obtain ⟨x2_6, ex2_6⟩ : ∃ y : Int32, y = x2 + (1 : Int32) := ⟨_, rfl⟩
      have h := h x2_6 ex2_6
      refine lv_iinc (v := x2_6) (lv' := [(2, .int x2_6), (0, .ref (xad G 23)), (1, .int x1)]) hx hb dX6_fill_57 hl (k := 2) rfl (by rw [ex2_6]; rfl) (by decide) rfl (fun ls hl => ?_)
      refine lv_goto (tgt := 49) hx hb dX6_fill_60 (by decide) ?_
      exact ih x2_6 A L _ _ _ hw (lv_sub hl [1, 2, 0] rfl) h
set_option maxHeartbeats 4000000 in
set_option maxRecDepth 100000 in
theorem t_X6_fill_29 (C0 : xC p s m args meth c G cX6_fill none wsX6_fill RX6 3) {post : xM → xL → Prop} : ∀ (n : Nat) (x1 : Int32) (A : xM) (L : xL) (H : Heap) (locs : List Loc) (ls : Array Slot), xW G s.heap A L H locs → lv_has ls 3 [(0, .ref (xad G 23)), (1, .int x1)] → v_X6_fill_29 post n x1 A L → W p l e rX6_fill s m args below meth c H locs 0 0 (MQ below (xQv G post) args s 0 0 (xAf G)) (F0 m 29 ls []) := by
  obtain ⟨hx, hb, hr, hts, hown, hml, hlocks, hG⟩ := id C0
  intro n
  induction n with
  | zero => intro x1 A L H locs ls hw hl h; exact (show False from h).elim
  | succ n ih =>
    intro x1 A L H locs ls hw hl h
    unfold v_X6_fill_29 at h
    refine lv_iload_n hx hb dX6_fill_29 rfl (lv_at hl 1 rfl) ?_
    refine lv_iconst (v := 1) hx hb dX6_fill_30 (by decide) ?_
    refine lv_aload_n hx hb dX6_fill_31 rfl (lv_at hl 0 rfl) ?_
    refine x_get (C := RX6) (T := TX6) (N := 20) hx hb hts inX6_fill_X6 hown hG hw xO23 rfl 9 (by decide) (hts (.fieldLink RX6 96 "SixNumbersModel" "works" "I") (List.mem_of_getElem? (i := 1) rfl)) (fun _ h9 => h9) (v := .int (A 23 9)) rfl dX6_fill_32 ?_
    refine lv_ishl hx hb dX6_fill_35 ?_
    refine lv_icmp_ge (tgt := 117) hx hb dX6_fill_36 (by decide) (fun c_1 => ?_) (fun c_1 => ?_)
    · have h := h.1 c_1
      refine lv_aload_n hx hb dX6_fill_117 rfl (lv_at hl 0 rfl) ?_
      refine lv_iconst (v := 0) hx hb dX6_fill_118 (by decide) ?_
      refine x_put (C := RX6) (T := TX6) (N := 20) hx hb hts inX6_fill_X6 tyX6 tyX6_ok nmX6 hown hG hw xO23 rfl 13 (by decide) (hts (.fieldLink RX6 64 "SixNumbersModel" "isHeap" "Z") (List.mem_of_getElem? (i := 4) rfl)) (fun _ h9 => h9) rfl (ty := .boolean) (by decide +kernel) (by decide) (by decide) (Nat.le_of_ble_eq_true rfl) rfl dX6_fill_119 (fun A_2 H locs eA_2 hw => ?_)
      have h := h A_2 eA_2
      exact x_vret hx hb hr hlocks hG hw h dX6_fill_122
    · have h := h.2 c_1
      refine lv_iload_n hx hb dX6_fill_39 rfl (lv_at hl 1 rfl) ?_
      refine x_calli hG hw (va_runS (As := [.int x1]) (rest := []) ⟨hx, hb, hml, hown, hts⟩ (c_X6_bits (l := l) (G := G) h) (va_cwS 1 hts gX6_fill_X6_bits rfl rfl rfl (by decide +kernel) ⟨Nat.le_of_ble_eq_true rfl, Nat.le_of_ble_eq_true rfl⟩) (x_preS hG hw) rfl rfl hl.1 rfl (lv_room (Nat.le_of_ble_eq_true rfl)) dX6_fill_40 ⟨Nat.le_of_ble_eq_true rfl, Nat.le_of_ble_eq_true rfl⟩) (fun r_3 A9 L9 H locs hw h => ?_)
      rw [h.2.1, h.2.2] at hw
      have h := h.1
      refine lv_iconst (v := 1) hx hb dX6_fill_43 (by decide) ?_
      refine lv_icmp_ne (tgt := 84) hx hb dX6_fill_44 (by decide) (fun c_4 => ?_) (fun c_4 => ?_)
      · have h := h.1 c_4
        refine lv_iconst (v := 1) hx hb dX6_fill_84 (by decide) ?_
        refine lv_istore_n (lv' := [(2, .int (1 : Int32)), (0, .ref (xad G 23)), (1, .int x1)]) hx hb dX6_fill_85 rfl hl (by decide) rfl (fun ls hl => ?_)
        obtain ⟨n9, h⟩ := h
        exact t_X6_fill_86 C0 ih n9 (1 : Int32) A L _ _ _ hw (lv_sub hl [1, 2, 0] rfl) h
      · have h := h.2 c_4
        refine lv_iconst (v := 0) hx hb dX6_fill_47 (by decide) ?_
        refine lv_istore_n (lv' := [(2, .int (0 : Int32)), (0, .ref (xad G 23)), (1, .int x1)]) hx hb dX6_fill_48 rfl hl (by decide) rfl (fun ls hl => ?_)
        obtain ⟨n9, h⟩ := h
        exact t_X6_fill_49 C0 ih n9 (0 : Int32) A L _ _ _ hw (lv_sub hl [1, 2, 0] rfl) h
set_option maxHeartbeats 4000000 in
set_option maxRecDepth 100000 in
theorem t_X6_fill_2 (C0 : xC p s m args meth c G cX6_fill none wsX6_fill RX6 3) {post : xM → xL → Prop} : ∀ (n : Nat) (x1 : Int32) (A : xM) (L : xL) (H : Heap) (locs : List Loc) (ls : Array Slot), xW G s.heap A L H locs → lv_has ls 3 [(0, .ref (xad G 23)), (1, .int x1)] → v_X6_fill_2 post n x1 A L → W p l e rX6_fill s m args below meth c H locs 0 0 (MQ below (xQv G post) args s 0 0 (xAf G)) (F0 m 2 ls []) := by
  obtain ⟨hx, hb, hr, hts, hown, hml, hlocks, hG⟩ := id C0
  intro n
  induction n with
  | zero => intro x1 A L H locs ls hw hl h; exact (show False from h).elim
  | succ n ih =>
    intro x1 A L H locs ls hw hl h
    unfold v_X6_fill_2 at h
    refine lv_iload_n hx hb dX6_fill_2 rfl (lv_at hl 1 rfl) ?_
    refine lv_sipush (v := 3001) hx hb dX6_fill_3 (by decide) ?_
    refine lv_aload_n hx hb dX6_fill_6 rfl (lv_at hl 0 rfl) ?_
    refine x_get (C := RX6) (T := TX6) (N := 20) hx hb hts inX6_fill_X6 hown hG hw xO23 rfl 9 (by decide) (hts (.fieldLink RX6 96 "SixNumbersModel" "works" "I") (List.mem_of_getElem? (i := 1) rfl)) (fun _ h9 => h9) (v := .int (A 23 9)) rfl dX6_fill_7 ?_
    refine lv_ishl hx hb dX6_fill_10 ?_
    refine lv_icmp_ge (tgt := 27) hx hb dX6_fill_11 (by decide) (fun c_1 => ?_) (fun c_1 => ?_)
    · have h := h.1 c_1
      refine lv_iconst (v := 1) hx hb dX6_fill_27 (by decide) ?_
      refine lv_istore_n (lv' := [(1, .int (1 : Int32)), (0, .ref (xad G 23))]) hx hb dX6_fill_28 rfl hl (by decide) rfl (fun ls hl => ?_)
      obtain ⟨n9, h⟩ := h
      exact t_X6_fill_29 C0 n9 (1 : Int32) A L _ _ _ hw (lv_sub hl [1, 0] rfl) h
    · have h := h.2 c_1
      refine lv_aload_n hx hb dX6_fill_14 rfl (lv_at hl 0 rfl) ?_
      refine x_get (C := RX6) (T := TX6) (N := 20) hx hb hts inX6_fill_X6 hown hG hw xO23 rfl 10 (by decide) (hts (.fieldLink RX6 30 "SixNumbersModel" "ways" "[J") (List.mem_of_getElem? (i := 2) rfl)) (fun _ h9 => h9) (v := .ref (xad G 28)) rfl dX6_fill_15 ?_
      refine lv_iload_n hx hb dX6_fill_18 rfl (lv_at hl 1 rfl) ?_
      refine lv_lconst (v := 0) hx hb dX6_fill_19 (by decide) ?_
      have i_2 := h.1
      have h := h.2
      refine x_last hx hb hG hw xb28 i_2 dX6_fill_20 (fun L_3 H locs eL_3 hw => ?_)
      have h := h L_3 eL_3
      obtain ⟨x1_4, ex1_4⟩ : ∃ y : Int32, y = x1 + (1 : Int32) := ⟨_, rfl⟩
      have h := h x1_4 ex1_4
      refine lv_iinc (v := x1_4) (lv' := [(1, .int x1_4), (0, .ref (xad G 23))]) hx hb dX6_fill_21 hl (k := 1) rfl (by rw [ex1_4]; rfl) (by decide) rfl (fun ls hl => ?_)
      refine lv_goto (tgt := 2) hx hb dX6_fill_24 (by decide) ?_
      exact ih x1_4 A L_3 _ _ _ hw (lv_sub hl [1, 0] rfl) h
set_option maxHeartbeats 4000000 in
set_option maxRecDepth 100000 in
theorem t_X6_fill_0 (C0 : xC p s m args meth c G cX6_fill none wsX6_fill RX6 3) {post : xM → xL → Prop} {A : xM} {L : xL} {H : Heap} {locs : List Loc} {ls : Array Slot} (hw : xW G s.heap A L H locs) (hl : lv_has ls 3 [(0, .ref (xad G 23))]) (h : v_X6_fill A L post) : W p l e rX6_fill s m args below meth c H locs 0 0 (MQ below (xQv G post) args s 0 0 (xAf G)) (F0 m 0 ls []) := by
  obtain ⟨hx, hb, hr, hts, hown, hml, hlocks, hG⟩ := id C0
  unfold v_X6_fill at h
  refine lv_iconst (v := 0) hx hb dX6_fill_0 (by decide) ?_
  refine lv_istore_n (lv' := [(1, .int (0 : Int32)), (0, .ref (xad G 23))]) hx hb dX6_fill_1 rfl hl (by decide) rfl (fun ls hl => ?_)
  obtain ⟨n9, h⟩ := h
  exact t_X6_fill_2 C0 n9 (0 : Int32) A L _ _ _ hw (lv_sub hl [1, 0] rfl) h
theorem c_X6_fill {l : Launch} {G : xGt} {A : xM} {L : xL} {post : xM → xL → Prop} (h : v_X6_fill A L post) : Met l yX6_fill wsX6_fill rX6_fill (va_Pc [.ref (xad G 23)] (xPre G A L)) (xQv G post) 0 0 (xAf G) :=
  x_met RX6 rfl (by decide) rfl (Nat.le_of_ble_eq_true rfl) (fun p e s m below meth c ls C0 hw hl => t_X6_fill_0 C0 hw hl h)
end MECH
abbrev rX6_heap : Room := { frames := 3, cells := 0, slots := 0, locals := 79 }
theorem inX6_heap_X6 : ∀ w ∈ wsX60, w ∈ wsX6_heap := fun w h => List.mem_cons_of_mem _ (List.mem_append_right _ h)
def v_X6_heap_17 (post : xM → xL → Prop) : Nat → Int32 → xM → xL → Prop
  | 0, _, _, _ => False
  | n + 1, x1, A, L => ((A 23 0) ≤ x1 → (v_X6_fill A L (fun (A_2 : xM) (L_3 : xL) => (∀ A_4 : xM, A_4 = xu A_2 23 13 (1 : Int32) → (post A_4 L_3))))) ∧ (¬ (A 23 0) ≤ x1 → (vp_in x1 6 ∧ (∀ A_6 : xM, A_6 = xu A 27 x1.toNatClampNeg (A 24 x1.toNatClampNeg) → (∀ x1_7 : Int32, x1_7 = x1 + (1 : Int32) → (v_X6_heap_17 post n x1_7 A_6 L)))))
def v_X6_heap (A : xM) (L : xL) (post : xM → xL → Prop) : Prop := (¬ (A 23 13) = 0 → (post A L)) ∧ ((A 23 13) = 0 → (∀ A_2 : xM, A_2 = xu A 23 9 (A 23 0) → (∃ k9 : Nat, v_X6_heap_17 post k9 (0 : Int32) A_2 L)))
section MECH
variable {p : Program} {l : Launch} {e : Env} {s : State} {m : MethodId} {args : Array Value} {below : List Frame} {meth : Method} {c : Code} {G : xGt}
set_option maxHeartbeats 4000000 in
set_option maxRecDepth 100000 in
theorem t_X6_heap_17 (C0 : xC p s m args meth c G cX6_heap none wsX6_heap RX6 2) {post : xM → xL → Prop} : ∀ (n : Nat) (x1 : Int32) (A : xM) (L : xL) (H : Heap) (locs : List Loc) (ls : Array Slot), xW G s.heap A L H locs → lv_has ls 2 [(0, .ref (xad G 23)), (1, .int x1)] → v_X6_heap_17 post n x1 A L → W p l e rX6_heap s m args below meth c H locs 0 0 (MQ below (xQv G post) args s 0 0 (xAf G)) (F0 m 17 ls []) := by
  obtain ⟨hx, hb, hr, hts, hown, hml, hlocks, hG⟩ := id C0
  intro n
  induction n with
  | zero => intro x1 A L H locs ls hw hl h; exact (show False from h).elim
  | succ n ih =>
    intro x1 A L H locs ls hw hl h
    unfold v_X6_heap_17 at h
    refine lv_iload_n hx hb dX6_heap_17 rfl (lv_at hl 1 rfl) ?_
    refine lv_aload_n hx hb dX6_heap_18 rfl (lv_at hl 0 rfl) ?_
    refine x_get (C := RX6) (T := TX6) (N := 20) hx hb hts inX6_heap_X6 hown hG hw xO23 rfl 0 (by decide) (hts (.fieldLink RX6 61 "SixNumbersModel" "items" "I") (List.mem_of_getElem? (i := 2) rfl)) (fun _ h9 => h9) (v := .int (A 23 0)) rfl dX6_heap_19 ?_
    refine lv_icmp_ge (tgt := 43) hx hb dX6_heap_22 (by decide) (fun c_1 => ?_) (fun c_1 => ?_)
    · have h := h.1 c_1
      refine lv_aload_n hx hb dX6_heap_43 rfl (lv_at hl 0 rfl) ?_
      refine x_callv hG hw (va_runV (As := []) (rest := []) ⟨hx, hb, hml, hown, hts⟩ (c_X6_fill (l := l) (G := G) h) (cwV 0 hts gX6_heap_X6_fill rfl rfl rfl (by decide +kernel) ⟨Nat.le_of_ble_eq_true rfl, Nat.le_of_ble_eq_true rfl⟩) (x_preV hG hw xO23 rfl) rfl rfl hl.1 rfl (lv_room (Nat.le_of_ble_eq_true rfl)) dX6_heap_44 ⟨Nat.le_of_ble_eq_true rfl, Nat.le_of_ble_eq_true rfl⟩) (fun A_2 L_3 H locs hw h => ?_)
      refine lv_aload_n hx hb dX6_heap_47 rfl (lv_at hl 0 rfl) ?_
      refine lv_iconst (v := 1) hx hb dX6_heap_48 (by decide) ?_
      refine x_put (C := RX6) (T := TX6) (N := 20) hx hb hts inX6_heap_X6 tyX6 tyX6_ok nmX6 hown hG hw xO23 rfl 13 (by decide) (hts (.fieldLink RX6 64 "SixNumbersModel" "isHeap" "Z") (List.mem_of_getElem? (i := 1) rfl)) (fun _ h9 => h9) rfl (ty := .boolean) (by decide +kernel) (by decide) (by decide) (Nat.le_of_ble_eq_true rfl) rfl dX6_heap_49 (fun A_4 H locs eA_4 hw => ?_)
      have h := h A_4 eA_4
      exact x_vret hx hb hr hlocks hG hw h dX6_heap_52
    · have h := h.2 c_1
      refine lv_aload_n hx hb dX6_heap_25 rfl (lv_at hl 0 rfl) ?_
      refine x_get (C := RX6) (T := TX6) (N := 20) hx hb hts inX6_heap_X6 hown hG hw xO23 rfl 8 (by decide) (hts (.fieldLink RX6 26 "SixNumbersModel" "work" "[I") (List.mem_of_getElem? (i := 4) rfl)) (fun _ h9 => h9) (v := .ref (xad G 27)) rfl dX6_heap_26 ?_
      refine lv_iload_n hx hb dX6_heap_29 rfl (lv_at hl 1 rfl) ?_
      refine lv_aload_n hx hb dX6_heap_30 rfl (lv_at hl 0 rfl) ?_
      refine x_get (C := RX6) (T := TX6) (N := 20) hx hb hts inX6_heap_X6 hown hG hw xO23 rfl 1 (by decide) (hts (.fieldLink RX6 7 "SixNumbersModel" "numbers" "[I") (List.mem_of_getElem? (i := 5) rfl)) (fun _ h9 => h9) (v := .ref (xad G 24)) rfl dX6_heap_31 ?_
      refine lv_iload_n hx hb dX6_heap_34 rfl (lv_at hl 1 rfl) ?_
      have i_5 := h.1
      have h := h.2
      refine x_iald hx hb hG hw xb24 i_5 dX6_heap_35 ?_
      refine x_iast hx hb hG hw xb27 i_5 dX6_heap_36 (fun A_6 H locs eA_6 hw => ?_)
      have h := h A_6 eA_6
      obtain ⟨x1_7, ex1_7⟩ : ∃ y : Int32, y = x1 + (1 : Int32) := ⟨_, rfl⟩
      have h := h x1_7 ex1_7
      refine lv_iinc (v := x1_7) (lv' := [(1, .int x1_7), (0, .ref (xad G 23))]) hx hb dX6_heap_37 hl (k := 1) rfl (by rw [ex1_7]; rfl) (by decide) rfl (fun ls hl => ?_)
      refine lv_goto (tgt := 17) hx hb dX6_heap_40 (by decide) ?_
      exact ih x1_7 A_6 L _ _ _ hw (lv_sub hl [1, 0] rfl) h
set_option maxHeartbeats 4000000 in
set_option maxRecDepth 100000 in
theorem t_X6_heap_0 (C0 : xC p s m args meth c G cX6_heap none wsX6_heap RX6 2) {post : xM → xL → Prop} {A : xM} {L : xL} {H : Heap} {locs : List Loc} {ls : Array Slot} (hw : xW G s.heap A L H locs) (hl : lv_has ls 2 [(0, .ref (xad G 23))]) (h : v_X6_heap A L post) : W p l e rX6_heap s m args below meth c H locs 0 0 (MQ below (xQv G post) args s 0 0 (xAf G)) (F0 m 0 ls []) := by
  obtain ⟨hx, hb, hr, hts, hown, hml, hlocks, hG⟩ := id C0
  unfold v_X6_heap at h
  refine lv_aload_n hx hb dX6_heap_0 rfl (lv_at hl 0 rfl) ?_
  refine x_get (C := RX6) (T := TX6) (N := 20) hx hb hts inX6_heap_X6 hown hG hw xO23 rfl 13 (by decide) (hts (.fieldLink RX6 64 "SixNumbersModel" "isHeap" "Z") (List.mem_of_getElem? (i := 1) rfl)) (fun _ h9 => h9) (v := .int (A 23 13)) rfl dX6_heap_1 ?_
  refine lv_if_ne (tgt := 52) hx hb dX6_heap_4 (by decide) (fun c_1 => ?_) (fun c_1 => ?_)
  · have h := h.1 c_1
    exact x_vret hx hb hr hlocks hG hw h dX6_heap_52
  · have h := h.2 c_1
    refine lv_aload_n hx hb dX6_heap_7 rfl (lv_at hl 0 rfl) ?_
    refine lv_aload_n hx hb dX6_heap_8 rfl (lv_at hl 0 rfl) ?_
    refine x_get (C := RX6) (T := TX6) (N := 20) hx hb hts inX6_heap_X6 hown hG hw xO23 rfl 0 (by decide) (hts (.fieldLink RX6 61 "SixNumbersModel" "items" "I") (List.mem_of_getElem? (i := 2) rfl)) (fun _ h9 => h9) (v := .int (A 23 0)) rfl dX6_heap_9 ?_
    refine x_put (C := RX6) (T := TX6) (N := 20) hx hb hts inX6_heap_X6 tyX6 tyX6_ok nmX6 hown hG hw xO23 rfl 9 (by decide) (hts (.fieldLink RX6 96 "SixNumbersModel" "works" "I") (List.mem_of_getElem? (i := 3) rfl)) (fun _ h9 => h9) rfl (ty := .int) (by decide +kernel) rfl rfl (Nat.le_of_ble_eq_true rfl) rfl dX6_heap_12 (fun A_2 H locs eA_2 hw => ?_)
    have h := h A_2 eA_2
    refine lv_iconst (v := 0) hx hb dX6_heap_15 (by decide) ?_
    refine lv_istore_n (lv' := [(1, .int (0 : Int32)), (0, .ref (xad G 23))]) hx hb dX6_heap_16 rfl hl (by decide) rfl (fun ls hl => ?_)
    obtain ⟨n9, h⟩ := h
    exact t_X6_heap_17 C0 n9 (0 : Int32) A_2 L _ _ _ hw (lv_sub hl [1, 0] rfl) h
theorem c_X6_heap {l : Launch} {G : xGt} {A : xM} {L : xL} {post : xM → xL → Prop} (h : v_X6_heap A L post) : Met l yX6_heap wsX6_heap rX6_heap (va_Pc [.ref (xad G 23)] (xPre G A L)) (xQv G post) 0 0 (xAf G) :=
  x_met RX6 rfl (by decide) rfl (Nat.le_of_ble_eq_true rfl) (fun p e s m below meth c ls C0 hw hl => t_X6_heap_0 C0 hw hl h)
end MECH
abbrev rX6_isSet : Room := { frames := 1, cells := 0, slots := 0, locals := 25 }
theorem inX6_isSet_X6 : ∀ w ∈ wsX60, w ∈ wsX6_isSet := fun w h => List.mem_cons_of_mem _ (List.mem_append_right _ h)
def v_X6_isSet (x1 : Int32) (A : xM) (L : xL) (post : Int32 → Prop) : Prop := v_X6_in (x1).toInt64 (1 : Int64) ((((1 : Int32) <<< ((A 23 0) &&& 31)) - (1 : Int32))).toInt64 (fun (r_1 : Int32) => ((r_1 = 0 ∨ r_1 = 1) ∧ post r_1))
section MECH
variable {p : Program} {l : Launch} {e : Env} {s : State} {m : MethodId} {args : Array Value} {below : List Frame} {meth : Method} {c : Code} {G : xGt}
set_option maxHeartbeats 4000000 in
set_option maxRecDepth 100000 in
theorem t_X6_isSet_0 (C0 : xC p s m args meth c G cX6_isSet (some .boolean) wsX6_isSet RX6 2) {post : Int32 → Prop} {x1 : Int32} {A : xM} {L : xL} {H : Heap} {locs : List Loc} {ls : Array Slot} (hw : xW G s.heap A L H locs) (hl : lv_has ls 2 [(0, .ref (xad G 23)), (1, .int x1)]) (h : v_X6_isSet x1 A L post) : W p l e rX6_isSet s m args below meth c H locs 0 0 (MQ below (xQi G (xpi A L post)) args s 0 0 (xAf G)) (F0 m 0 ls []) := by
  obtain ⟨hx, hb, hr, hts, hown, hml, hlocks, hG⟩ := id C0
  unfold v_X6_isSet at h
  refine lv_iload_n hx hb dX6_isSet_0 rfl (lv_at hl 1 rfl) ?_
  refine lv_i2l hx hb dX6_isSet_1 rfl ?_
  refine lv_lconst (v := 1) hx hb dX6_isSet_2 (by decide) ?_
  refine lv_iconst (v := 1) hx hb dX6_isSet_3 (by decide) ?_
  refine lv_aload_n hx hb dX6_isSet_4 rfl (lv_at hl 0 rfl) ?_
  refine x_get (C := RX6) (T := TX6) (N := 20) hx hb hts inX6_isSet_X6 hown hG hw xO23 rfl 0 (by decide) (hts (.fieldLink RX6 61 "SixNumbersModel" "items" "I") (List.mem_of_getElem? (i := 1) rfl)) (fun _ h9 => h9) (v := .int (A 23 0)) rfl dX6_isSet_5 ?_
  refine lv_ishl hx hb dX6_isSet_8 ?_
  refine lv_iconst (v := 1) hx hb dX6_isSet_9 (by decide) ?_
  refine lv_isub hx hb dX6_isSet_10 ?_
  refine lv_i2l hx hb dX6_isSet_11 rfl ?_
  refine x_calli hG hw (va_runS (As := [.long (x1).toInt64, .long (1 : Int64), .long ((((1 : Int32) <<< ((A 23 0) &&& 31)) - (1 : Int32))).toInt64]) (rest := []) ⟨hx, hb, hml, hown, hts⟩ (c_X6_in (l := l) (G := G) h) (va_cwS 3 hts gX6_isSet_X6_in rfl rfl rfl (by decide +kernel) ⟨Nat.le_of_ble_eq_true rfl, Nat.le_of_ble_eq_true rfl⟩) (x_preS hG hw) rfl rfl hl.1 rfl (lv_room (Nat.le_of_ble_eq_true rfl)) dX6_isSet_12 ⟨Nat.le_of_ble_eq_true rfl, Nat.le_of_ble_eq_true rfl⟩) (fun r_1 A9 L9 H locs hw h => ?_)
  rw [h.2.1, h.2.2] at hw
  have h := h.1
  exact x_zret hx hb hr hlocks hG hw h.1 ⟨h.2, rfl, rfl⟩ dX6_isSet_15
theorem c_X6_isSet {l : Launch} {G : xGt} {x1 : Int32} {A : xM} {L : xL} {post : Int32 → Prop} (h : v_X6_isSet x1 A L post) : Met l yX6_isSet wsX6_isSet rX6_isSet (va_Pc [.ref (xad G 23), .int x1] (xPre G A L)) (xQi G (xpi A L post)) 0 0 (xAf G) :=
  x_met RX6 rfl (by decide) rfl (Nat.le_of_ble_eq_true rfl) (fun p e s m below meth c ls C0 hw hl => t_X6_isSet_0 C0 hw hl h)
end MECH
abbrev rX6_allOf : Room := { frames := 0, cells := 0, slots := 0, locals := 0 }
theorem inX6_allOf_X6 : ∀ w ∈ wsX60, w ∈ wsX6_allOf := fun w h => List.mem_cons_of_mem _ (List.mem_append_right _ h)
def v_X6_allOf_5 (x1 : Int32) (A : xM) (L : xL) (post : Int64 → Prop) : Nat → Int64 → Int32 → Prop
  | 0, _, _ => False
  | n + 1, y2, x4 => (((1 : Int32) <<< ((A 23 9) &&& 31)) ≤ x4 → (post y2)) ∧ (¬ ((1 : Int32) <<< ((A 23 9) &&& 31)) ≤ x4 → (vp_in (((3001 : Int32) * x4) + x1) 192064 ∧ (∀ y2_3 : Int64, y2_3 = (y2 + (L 28 (((3001 : Int32) * x4) + x1).toNatClampNeg)) → (∀ x4_4 : Int32, x4_4 = x4 + (1 : Int32) → (v_X6_allOf_5 x1 A L post n y2_3 x4_4)))))
def v_X6_allOf (x1 : Int32) (A : xM) (L : xL) (post : Int64 → Prop) : Prop := ∃ k9 : Nat, v_X6_allOf_5 x1 A L post k9 (0 : Int64) (1 : Int32)
section MECH
variable {p : Program} {l : Launch} {e : Env} {s : State} {m : MethodId} {args : Array Value} {below : List Frame} {meth : Method} {c : Code} {G : xGt}
set_option maxHeartbeats 4000000 in
set_option maxRecDepth 100000 in
theorem t_X6_allOf_5 (C0 : xC p s m args meth c G cX6_allOf (some .long) wsX6_allOf RX6 5) {post : Int64 → Prop} {x1 : Int32} {A : xM} {L : xL} : ∀ (n : Nat) (y2 : Int64) (x4 : Int32) (H : Heap) (locs : List Loc) (ls : Array Slot), xW G s.heap A L H locs → lv_has ls 5 [(0, .ref (xad G 23)), (1, .int x1), (2, .long y2), (4, .int x4)] → v_X6_allOf_5 x1 A L post n y2 x4 → W p l e rX6_allOf s m args below meth c H locs 0 0 (MQ below (xQl G (xpl A L post)) args s 0 0 (xAf G)) (F0 m 5 ls []) := by
  obtain ⟨hx, hb, hr, hts, hown, hml, hlocks, hG⟩ := id C0
  intro n
  induction n with
  | zero => intro y2 x4 H locs ls hw hl h; exact (show False from h).elim
  | succ n ih =>
    intro y2 x4 H locs ls hw hl h
    unfold v_X6_allOf_5 at h
    refine lv_iload hx hb dX6_allOf_5 (lv_at hl 3 rfl) ?_
    refine lv_iconst (v := 1) hx hb dX6_allOf_7 (by decide) ?_
    refine lv_aload_n hx hb dX6_allOf_8 rfl (lv_at hl 0 rfl) ?_
    refine x_get (C := RX6) (T := TX6) (N := 20) hx hb hts inX6_allOf_X6 hown hG hw xO23 rfl 9 (by decide) (hts (.fieldLink RX6 96 "SixNumbersModel" "works" "I") (List.mem_of_getElem? (i := 1) rfl)) (fun _ h9 => h9) (v := .int (A 23 9)) rfl dX6_allOf_9 ?_
    refine lv_ishl hx hb dX6_allOf_12 ?_
    refine lv_icmp_ge (tgt := 38) hx hb dX6_allOf_13 (by decide) (fun c_1 => ?_) (fun c_1 => ?_)
    · have h := h.1 c_1
      refine lv_lload_n hx hb dX6_allOf_38 rfl (lv_at hl 2 rfl) ?_
      exact x_lret hx hb hr hlocks hG hw ⟨h, rfl, rfl⟩ dX6_allOf_39
    · have h := h.2 c_1
      refine lv_lload_n hx hb dX6_allOf_16 rfl (lv_at hl 2 rfl) ?_
      refine lv_aload_n hx hb dX6_allOf_17 rfl (lv_at hl 0 rfl) ?_
      refine x_get (C := RX6) (T := TX6) (N := 20) hx hb hts inX6_allOf_X6 hown hG hw xO23 rfl 10 (by decide) (hts (.fieldLink RX6 30 "SixNumbersModel" "ways" "[J") (List.mem_of_getElem? (i := 2) rfl)) (fun _ h9 => h9) (v := .ref (xad G 28)) rfl dX6_allOf_18 ?_
      refine lv_sipush (v := 3001) hx hb dX6_allOf_21 (by decide) ?_
      refine lv_iload hx hb dX6_allOf_24 (lv_at hl 3 rfl) ?_
      refine lv_imul hx hb dX6_allOf_26 ?_
      refine lv_iload_n hx hb dX6_allOf_27 rfl (lv_at hl 1 rfl) ?_
      refine lv_iadd hx hb dX6_allOf_28 ?_
      have i_2 := h.1
      have h := h.2
      refine x_lald hx hb hG hw xb28 i_2 dX6_allOf_29 ?_
      refine lv_ladd hx hb dX6_allOf_30 ?_
      refine lv_topl (fun y2_3 ey2_3 => ?_)
      have h := h y2_3 ey2_3
      refine lv_lstore_n (lv' := [(2, .long y2_3), (0, .ref (xad G 23)), (1, .int x1), (4, .int x4)]) hx hb dX6_allOf_31 rfl hl (by decide) rfl (fun ls hl => ?_)
      obtain ⟨x4_4, ex4_4⟩ : ∃ y : Int32, y = x4 + (1 : Int32) := ⟨_, rfl⟩
      have h := h x4_4 ex4_4
      refine lv_iinc (v := x4_4) (lv' := [(4, .int x4_4), (2, .long y2_3), (0, .ref (xad G 23)), (1, .int x1)]) hx hb dX6_allOf_32 hl (k := 3) rfl (by rw [ex4_4]; rfl) (by decide) rfl (fun ls hl => ?_)
      refine lv_goto (tgt := 5) hx hb dX6_allOf_35 (by decide) ?_
      exact ih y2_3 x4_4 _ _ _ hw (lv_sub hl [2, 3, 1, 0] rfl) h
set_option maxHeartbeats 4000000 in
set_option maxRecDepth 100000 in
theorem t_X6_allOf_0 (C0 : xC p s m args meth c G cX6_allOf (some .long) wsX6_allOf RX6 5) {post : Int64 → Prop} {x1 : Int32} {A : xM} {L : xL} {H : Heap} {locs : List Loc} {ls : Array Slot} (hw : xW G s.heap A L H locs) (hl : lv_has ls 5 [(0, .ref (xad G 23)), (1, .int x1)]) (h : v_X6_allOf x1 A L post) : W p l e rX6_allOf s m args below meth c H locs 0 0 (MQ below (xQl G (xpl A L post)) args s 0 0 (xAf G)) (F0 m 0 ls []) := by
  obtain ⟨hx, hb, hr, hts, hown, hml, hlocks, hG⟩ := id C0
  unfold v_X6_allOf at h
  refine lv_lconst (v := 0) hx hb dX6_allOf_0 (by decide) ?_
  refine lv_lstore_n (lv' := [(2, .long (0 : Int64)), (0, .ref (xad G 23)), (1, .int x1)]) hx hb dX6_allOf_1 rfl hl (by decide) rfl (fun ls hl => ?_)
  refine lv_iconst (v := 1) hx hb dX6_allOf_2 (by decide) ?_
  refine lv_istore (lv' := [(4, .int (1 : Int32)), (2, .long (0 : Int64)), (0, .ref (xad G 23)), (1, .int x1)]) hx hb dX6_allOf_3 hl (by decide) rfl (fun ls hl => ?_)
  obtain ⟨n9, h⟩ := h
  exact t_X6_allOf_5 C0 n9 (0 : Int64) (1 : Int32) _ _ _ hw (lv_sub hl [2, 3, 1, 0] rfl) h
theorem c_X6_allOf {l : Launch} {G : xGt} {x1 : Int32} {A : xM} {L : xL} {post : Int64 → Prop} (h : v_X6_allOf x1 A L post) : Met l yX6_allOf wsX6_allOf rX6_allOf (va_Pc [.ref (xad G 23), .int x1] (xPre G A L)) (xQl G (xpl A L post)) 0 0 (xAf G) :=
  x_met RX6 rfl (by decide) rfl (Nat.le_of_ble_eq_true rfl) (fun p e s m below meth c ls C0 hw hl => t_X6_allOf_0 C0 hw hl h)
end MECH
abbrev rX6_isReached : Room := { frames := 1, cells := 0, slots := 0, locals := 24 }
def v_X6_isReached (x1 : Int32) (A : xM) (L : xL) (post : Int32 → Prop) : Prop := v_X6_allOf x1 A L (fun (r_1 : Int64) => (((lg_cmp r_1 (0 : Int64)) ≤ 0 → (post (0 : Int32))) ∧ (¬ (lg_cmp r_1 (0 : Int64)) ≤ 0 → (post (1 : Int32)))))
section MECH
variable {p : Program} {l : Launch} {e : Env} {s : State} {m : MethodId} {args : Array Value} {below : List Frame} {meth : Method} {c : Code} {G : xGt}
set_option maxHeartbeats 4000000 in
set_option maxRecDepth 100000 in
theorem t_X6_isReached_0 (C0 : xC p s m args meth c G cX6_isReached (some .boolean) wsX6_isReached RX6 2) {post : Int32 → Prop} {x1 : Int32} {A : xM} {L : xL} {H : Heap} {locs : List Loc} {ls : Array Slot} (hw : xW G s.heap A L H locs) (hl : lv_has ls 2 [(0, .ref (xad G 23)), (1, .int x1)]) (h : v_X6_isReached x1 A L post) : W p l e rX6_isReached s m args below meth c H locs 0 0 (MQ below (xQi G (xpi A L post)) args s 0 0 (xAf G)) (F0 m 0 ls []) := by
  obtain ⟨hx, hb, hr, hts, hown, hml, hlocks, hG⟩ := id C0
  unfold v_X6_isReached at h
  refine lv_aload_n hx hb dX6_isReached_0 rfl (lv_at hl 0 rfl) ?_
  refine lv_iload_n hx hb dX6_isReached_1 rfl (lv_at hl 1 rfl) ?_
  refine x_calll hG hw (va_runV (As := [.int x1]) (rest := []) ⟨hx, hb, hml, hown, hts⟩ (c_X6_allOf (l := l) (G := G) h) (cwV 1 hts gX6_isReached_X6_allOf rfl rfl rfl (by decide +kernel) ⟨Nat.le_of_ble_eq_true rfl, Nat.le_of_ble_eq_true rfl⟩) (x_preV hG hw xO23 rfl) rfl rfl hl.1 rfl (lv_room (Nat.le_of_ble_eq_true rfl)) dX6_isReached_2 ⟨Nat.le_of_ble_eq_true rfl, Nat.le_of_ble_eq_true rfl⟩) (fun r_1 A9 L9 H locs hw h => ?_)
  rw [h.2.1, h.2.2] at hw
  have h := h.1
  refine lv_lconst (v := 0) hx hb dX6_isReached_5 (by decide) ?_
  refine W.lcmp hx hb dX6_isReached_6 ?_
  refine lv_if_le (tgt := 14) hx hb dX6_isReached_7 (by decide) (fun c_2 => ?_) (fun c_2 => ?_)
  · have h := h.1 c_2
    refine lv_iconst (v := 0) hx hb dX6_isReached_14 (by decide) ?_
    exact x_zret hx hb hr hlocks hG hw (by decide) ⟨h, rfl, rfl⟩ dX6_isReached_15
  · have h := h.2 c_2
    refine lv_iconst (v := 1) hx hb dX6_isReached_10 (by decide) ?_
    refine lv_goto (tgt := 15) hx hb dX6_isReached_11 (by decide) ?_
    exact x_zret hx hb hr hlocks hG hw (by decide) ⟨h, rfl, rfl⟩ dX6_isReached_15
theorem c_X6_isReached {l : Launch} {G : xGt} {x1 : Int32} {A : xM} {L : xL} {post : Int32 → Prop} (h : v_X6_isReached x1 A L post) : Met l yX6_isReached wsX6_isReached rX6_isReached (va_Pc [.ref (xad G 23), .int x1] (xPre G A L)) (xQi G (xpi A L post)) 0 0 (xAf G) :=
  x_met RX6 rfl (by decide) rfl (Nat.le_of_ble_eq_true rfl) (fun p e s m below meth c ls C0 hw hl => t_X6_isReached_0 C0 hw hl h)
end MECH
abbrev rX6_ways : Room := { frames := 4, cells := 0, slots := 0, locals := 100 }
theorem inX6_ways_X6 : ∀ w ∈ wsX60, w ∈ wsX6_ways := fun w h => List.mem_cons_of_mem _ (List.mem_append_right _ h)
def v_X6_ways (x1 : Int32) (x2 : Int32) (A : xM) (L : xL) (post : Int64 → xM → xL → Prop) : Prop := v_X6_isSet x1 A L (fun (r_1 : Int32) => ((r_1 = 0 → (post (-1002 : Int64) A L)) ∧ (¬ r_1 = 0 → (v_X6_in (x2).toInt64 (1 : Int64) (3000 : Int64) (fun (r_3 : Int32) => ((¬ r_3 = 0 → (v_X6_heap A L (fun (A_5 : xM) (L_6 : xL) => (vp_in (((3001 : Int32) * x1) + x2) 192064 ∧ (post (L_6 28 (((3001 : Int32) * x1) + x2).toNatClampNeg) A_5 L_6))))) ∧ (r_3 = 0 → (post (-1002 : Int64) A L))))))))
section MECH
variable {p : Program} {l : Launch} {e : Env} {s : State} {m : MethodId} {args : Array Value} {below : List Frame} {meth : Method} {c : Code} {G : xGt}
set_option maxHeartbeats 4000000 in
set_option maxRecDepth 100000 in
theorem t_X6_ways_0 (C0 : xC p s m args meth c G cX6_ways (some .long) wsX6_ways RX6 3) {post : Int64 → xM → xL → Prop} {x1 : Int32} {x2 : Int32} {A : xM} {L : xL} {H : Heap} {locs : List Loc} {ls : Array Slot} (hw : xW G s.heap A L H locs) (hl : lv_has ls 3 [(0, .ref (xad G 23)), (1, .int x1), (2, .int x2)]) (h : v_X6_ways x1 x2 A L post) : W p l e rX6_ways s m args below meth c H locs 0 0 (MQ below (xQl G post) args s 0 0 (xAf G)) (F0 m 0 ls []) := by
  obtain ⟨hx, hb, hr, hts, hown, hml, hlocks, hG⟩ := id C0
  unfold v_X6_ways at h
  refine lv_aload_n hx hb dX6_ways_0 rfl (lv_at hl 0 rfl) ?_
  refine lv_iload_n hx hb dX6_ways_1 rfl (lv_at hl 1 rfl) ?_
  refine x_calli hG hw (va_runV (As := [.int x1]) (rest := []) ⟨hx, hb, hml, hown, hts⟩ (c_X6_isSet (l := l) (G := G) h) (cwV 1 hts gX6_ways_X6_isSet rfl rfl rfl (by decide +kernel) ⟨Nat.le_of_ble_eq_true rfl, Nat.le_of_ble_eq_true rfl⟩) (x_preV hG hw xO23 rfl) rfl rfl hl.1 rfl (lv_room (Nat.le_of_ble_eq_true rfl)) dX6_ways_2 ⟨Nat.le_of_ble_eq_true rfl, Nat.le_of_ble_eq_true rfl⟩) (fun r_1 A9 L9 H locs hw h => ?_)
  rw [h.2.1, h.2.2] at hw
  have h := h.1
  refine lv_if_eq (tgt := 20) hx hb dX6_ways_5 (by decide) (fun c_2 => ?_) (fun c_2 => ?_)
  · have h := h.1 c_2
    refine lv_ldc2 (v := (-1002 : Int64)) hx hb hown (hts _ (List.mem_of_getElem? (i := 2) rfl)) dX6_ways_20 ?_
    exact x_lret hx hb hr hlocks hG hw h dX6_ways_23
  · have h := h.2 c_2
    refine lv_iload_n hx hb dX6_ways_8 rfl (lv_at hl 2 rfl) ?_
    refine lv_i2l hx hb dX6_ways_9 rfl ?_
    refine lv_lconst (v := 1) hx hb dX6_ways_10 (by decide) ?_
    refine lv_ldc2 (v := (3000 : Int64)) hx hb hown (hts _ (List.mem_of_getElem? (i := 1) rfl)) dX6_ways_11 ?_
    refine x_calli hG hw (va_runS (As := [.long (x2).toInt64, .long (1 : Int64), .long (3000 : Int64)]) (rest := []) ⟨hx, hb, hml, hown, hts⟩ (c_X6_in (l := l) (G := G) h) (va_cwS 3 hts gX6_ways_X6_in rfl rfl rfl (by decide +kernel) ⟨Nat.le_of_ble_eq_true rfl, Nat.le_of_ble_eq_true rfl⟩) (x_preS hG hw) rfl rfl hl.1 rfl (lv_room (Nat.le_of_ble_eq_true rfl)) dX6_ways_14 ⟨Nat.le_of_ble_eq_true rfl, Nat.le_of_ble_eq_true rfl⟩) (fun r_3 A9 L9 H locs hw h => ?_)
    rw [h.2.1, h.2.2] at hw
    have h := h.1
    refine lv_if_ne (tgt := 24) hx hb dX6_ways_17 (by decide) (fun c_4 => ?_) (fun c_4 => ?_)
    · have h := h.1 c_4
      refine lv_aload_n hx hb dX6_ways_24 rfl (lv_at hl 0 rfl) ?_
      refine x_callv hG hw (va_runV (As := []) (rest := []) ⟨hx, hb, hml, hown, hts⟩ (c_X6_heap (l := l) (G := G) h) (cwV 0 hts gX6_ways_X6_heap rfl rfl rfl (by decide +kernel) ⟨Nat.le_of_ble_eq_true rfl, Nat.le_of_ble_eq_true rfl⟩) (x_preV hG hw xO23 rfl) rfl rfl hl.1 rfl (lv_room (Nat.le_of_ble_eq_true rfl)) dX6_ways_25 ⟨Nat.le_of_ble_eq_true rfl, Nat.le_of_ble_eq_true rfl⟩) (fun A_5 L_6 H locs hw h => ?_)
      refine lv_aload_n hx hb dX6_ways_28 rfl (lv_at hl 0 rfl) ?_
      refine x_get (C := RX6) (T := TX6) (N := 20) hx hb hts inX6_ways_X6 hown hG hw xO23 rfl 10 (by decide) (hts (.fieldLink RX6 30 "SixNumbersModel" "ways" "[J") (List.mem_of_getElem? (i := 3) rfl)) (fun _ h9 => h9) (v := .ref (xad G 28)) rfl dX6_ways_29 ?_
      refine lv_sipush (v := 3001) hx hb dX6_ways_32 (by decide) ?_
      refine lv_iload_n hx hb dX6_ways_35 rfl (lv_at hl 1 rfl) ?_
      refine lv_imul hx hb dX6_ways_36 ?_
      refine lv_iload_n hx hb dX6_ways_37 rfl (lv_at hl 2 rfl) ?_
      refine lv_iadd hx hb dX6_ways_38 ?_
      have i_7 := h.1
      have h := h.2
      refine x_lald hx hb hG hw xb28 i_7 dX6_ways_39 ?_
      exact x_lret hx hb hr hlocks hG hw h dX6_ways_40
    · have h := h.2 c_4
      refine lv_ldc2 (v := (-1002 : Int64)) hx hb hown (hts _ (List.mem_of_getElem? (i := 2) rfl)) dX6_ways_20 ?_
      exact x_lret hx hb hr hlocks hG hw h dX6_ways_23
theorem c_X6_ways {l : Launch} {G : xGt} {x1 : Int32} {x2 : Int32} {A : xM} {L : xL} {post : Int64 → xM → xL → Prop} (h : v_X6_ways x1 x2 A L post) : Met l yX6_ways wsX6_ways rX6_ways (va_Pc [.ref (xad G 23), .int x1, .int x2] (xPre G A L)) (xQl G post) 0 0 (xAf G) :=
  x_met RX6 rfl (by decide) rfl (Nat.le_of_ble_eq_true rfl) (fun p e s m below meth c ls C0 hw hl => t_X6_ways_0 C0 hw hl h)
end MECH
abbrev rX6_all : Room := { frames := 4, cells := 0, slots := 0, locals := 100 }
def v_X6_all (x1 : Int32) (A : xM) (L : xL) (post : Int64 → xM → xL → Prop) : Prop := v_X6_in (x1).toInt64 (1 : Int64) (3000 : Int64) (fun (r_1 : Int32) => ((¬ r_1 = 0 → (v_X6_heap A L (fun (A_3 : xM) (L_4 : xL) => (v_X6_allOf x1 A_3 L_4 (fun (r_5 : Int64) => (post r_5 A_3 L_4)))))) ∧ (r_1 = 0 → (post (-1002 : Int64) A L))))
section MECH
variable {p : Program} {l : Launch} {e : Env} {s : State} {m : MethodId} {args : Array Value} {below : List Frame} {meth : Method} {c : Code} {G : xGt}
set_option maxHeartbeats 4000000 in
set_option maxRecDepth 100000 in
theorem t_X6_all_0 (C0 : xC p s m args meth c G cX6_all (some .long) wsX6_all RX6 2) {post : Int64 → xM → xL → Prop} {x1 : Int32} {A : xM} {L : xL} {H : Heap} {locs : List Loc} {ls : Array Slot} (hw : xW G s.heap A L H locs) (hl : lv_has ls 2 [(0, .ref (xad G 23)), (1, .int x1)]) (h : v_X6_all x1 A L post) : W p l e rX6_all s m args below meth c H locs 0 0 (MQ below (xQl G post) args s 0 0 (xAf G)) (F0 m 0 ls []) := by
  obtain ⟨hx, hb, hr, hts, hown, hml, hlocks, hG⟩ := id C0
  unfold v_X6_all at h
  refine lv_iload_n hx hb dX6_all_0 rfl (lv_at hl 1 rfl) ?_
  refine lv_i2l hx hb dX6_all_1 rfl ?_
  refine lv_lconst (v := 1) hx hb dX6_all_2 (by decide) ?_
  refine lv_ldc2 (v := (3000 : Int64)) hx hb hown (hts _ (List.mem_of_getElem? (i := 1) rfl)) dX6_all_3 ?_
  refine x_calli hG hw (va_runS (As := [.long (x1).toInt64, .long (1 : Int64), .long (3000 : Int64)]) (rest := []) ⟨hx, hb, hml, hown, hts⟩ (c_X6_in (l := l) (G := G) h) (va_cwS 3 hts gX6_all_X6_in rfl rfl rfl (by decide +kernel) ⟨Nat.le_of_ble_eq_true rfl, Nat.le_of_ble_eq_true rfl⟩) (x_preS hG hw) rfl rfl hl.1 rfl (lv_room (Nat.le_of_ble_eq_true rfl)) dX6_all_6 ⟨Nat.le_of_ble_eq_true rfl, Nat.le_of_ble_eq_true rfl⟩) (fun r_1 A9 L9 H locs hw h => ?_)
  rw [h.2.1, h.2.2] at hw
  have h := h.1
  refine lv_if_ne (tgt := 16) hx hb dX6_all_9 (by decide) (fun c_2 => ?_) (fun c_2 => ?_)
  · have h := h.1 c_2
    refine lv_aload_n hx hb dX6_all_16 rfl (lv_at hl 0 rfl) ?_
    refine x_callv hG hw (va_runV (As := []) (rest := []) ⟨hx, hb, hml, hown, hts⟩ (c_X6_heap (l := l) (G := G) h) (cwV 0 hts gX6_all_X6_heap rfl rfl rfl (by decide +kernel) ⟨Nat.le_of_ble_eq_true rfl, Nat.le_of_ble_eq_true rfl⟩) (x_preV hG hw xO23 rfl) rfl rfl hl.1 rfl (lv_room (Nat.le_of_ble_eq_true rfl)) dX6_all_17 ⟨Nat.le_of_ble_eq_true rfl, Nat.le_of_ble_eq_true rfl⟩) (fun A_3 L_4 H locs hw h => ?_)
    refine lv_aload_n hx hb dX6_all_20 rfl (lv_at hl 0 rfl) ?_
    refine lv_iload_n hx hb dX6_all_21 rfl (lv_at hl 1 rfl) ?_
    refine x_calll hG hw (va_runV (As := [.int x1]) (rest := []) ⟨hx, hb, hml, hown, hts⟩ (c_X6_allOf (l := l) (G := G) h) (cwV 1 hts gX6_all_X6_allOf rfl rfl rfl (by decide +kernel) ⟨Nat.le_of_ble_eq_true rfl, Nat.le_of_ble_eq_true rfl⟩) (x_preV hG hw xO23 rfl) rfl rfl hl.1 rfl (lv_room (Nat.le_of_ble_eq_true rfl)) dX6_all_22 ⟨Nat.le_of_ble_eq_true rfl, Nat.le_of_ble_eq_true rfl⟩) (fun r_5 A9 L9 H locs hw h => ?_)
    rw [h.2.1, h.2.2] at hw
    have h := h.1
    exact x_lret hx hb hr hlocks hG hw h dX6_all_25
  · have h := h.2 c_2
    refine lv_ldc2 (v := (-1002 : Int64)) hx hb hown (hts _ (List.mem_of_getElem? (i := 2) rfl)) dX6_all_12 ?_
    exact x_lret hx hb hr hlocks hG hw h dX6_all_15
theorem c_X6_all {l : Launch} {G : xGt} {x1 : Int32} {A : xM} {L : xL} {post : Int64 → xM → xL → Prop} (h : v_X6_all x1 A L post) : Met l yX6_all wsX6_all rX6_all (va_Pc [.ref (xad G 23), .int x1] (xPre G A L)) (xQl G post) 0 0 (xAf G) :=
  x_met RX6 rfl (by decide) rfl (Nat.le_of_ble_eq_true rfl) (fun p e s m below meth c ls C0 hw hl => t_X6_all_0 C0 hw hl h)
end MECH
abbrev rX6_has : Room := { frames := 2, cells := 0, slots := 0, locals := 45 }
theorem inX6_has_X6 : ∀ w ∈ wsX60, w ∈ wsX6_has := fun w h => List.mem_cons_of_mem _ (List.mem_append_right _ h)
def v_X6_has (x1 : Int32) (x2 : Int32) (A : xM) (L : xL) (post : Int32 → Prop) : Prop := (¬ x1 = 0 → (vp_in (((3001 : Int32) * x1) + x2) 192064 ∧ (((lg_cmp (L 28 (((3001 : Int32) * x1) + x2).toNatClampNeg) (0 : Int64)) ≤ 0 → (post (0 : Int32))) ∧ (¬ (lg_cmp (L 28 (((3001 : Int32) * x1) + x2).toNatClampNeg) (0 : Int64)) ≤ 0 → (post (1 : Int32)))))) ∧ (x1 = 0 → (v_X6_isReached x2 A L (fun (r_4 : Int32) => ((r_4 = 0 ∨ r_4 = 1) ∧ post r_4))))
section MECH
variable {p : Program} {l : Launch} {e : Env} {s : State} {m : MethodId} {args : Array Value} {below : List Frame} {meth : Method} {c : Code} {G : xGt}
set_option maxHeartbeats 4000000 in
set_option maxRecDepth 100000 in
theorem t_X6_has_0 (C0 : xC p s m args meth c G cX6_has (some .boolean) wsX6_has RX6 3) {post : Int32 → Prop} {x1 : Int32} {x2 : Int32} {A : xM} {L : xL} {H : Heap} {locs : List Loc} {ls : Array Slot} (hw : xW G s.heap A L H locs) (hl : lv_has ls 3 [(0, .ref (xad G 23)), (1, .int x1), (2, .int x2)]) (h : v_X6_has x1 x2 A L post) : W p l e rX6_has s m args below meth c H locs 0 0 (MQ below (xQi G (xpi A L post)) args s 0 0 (xAf G)) (F0 m 0 ls []) := by
  obtain ⟨hx, hb, hr, hts, hown, hml, hlocks, hG⟩ := id C0
  unfold v_X6_has at h
  refine lv_iload_n hx hb dX6_has_0 rfl (lv_at hl 1 rfl) ?_
  refine lv_if_ne (tgt := 12) hx hb dX6_has_1 (by decide) (fun c_1 => ?_) (fun c_1 => ?_)
  · have h := h.1 c_1
    refine lv_aload_n hx hb dX6_has_12 rfl (lv_at hl 0 rfl) ?_
    refine x_get (C := RX6) (T := TX6) (N := 20) hx hb hts inX6_has_X6 hown hG hw xO23 rfl 10 (by decide) (hts (.fieldLink RX6 30 "SixNumbersModel" "ways" "[J") (List.mem_of_getElem? (i := 1) rfl)) (fun _ h9 => h9) (v := .ref (xad G 28)) rfl dX6_has_13 ?_
    refine lv_sipush (v := 3001) hx hb dX6_has_16 (by decide) ?_
    refine lv_iload_n hx hb dX6_has_19 rfl (lv_at hl 1 rfl) ?_
    refine lv_imul hx hb dX6_has_20 ?_
    refine lv_iload_n hx hb dX6_has_21 rfl (lv_at hl 2 rfl) ?_
    refine lv_iadd hx hb dX6_has_22 ?_
    have i_2 := h.1
    have h := h.2
    refine x_lald hx hb hG hw xb28 i_2 dX6_has_23 ?_
    refine lv_lconst (v := 0) hx hb dX6_has_24 (by decide) ?_
    refine W.lcmp hx hb dX6_has_25 ?_
    refine lv_if_le (tgt := 33) hx hb dX6_has_26 (by decide) (fun c_3 => ?_) (fun c_3 => ?_)
    · have h := h.1 c_3
      refine lv_iconst (v := 0) hx hb dX6_has_33 (by decide) ?_
      exact x_zret hx hb hr hlocks hG hw (by decide) ⟨h, rfl, rfl⟩ dX6_has_34
    · have h := h.2 c_3
      refine lv_iconst (v := 1) hx hb dX6_has_29 (by decide) ?_
      refine lv_goto (tgt := 34) hx hb dX6_has_30 (by decide) ?_
      exact x_zret hx hb hr hlocks hG hw (by decide) ⟨h, rfl, rfl⟩ dX6_has_34
  · have h := h.2 c_1
    refine lv_aload_n hx hb dX6_has_4 rfl (lv_at hl 0 rfl) ?_
    refine lv_iload_n hx hb dX6_has_5 rfl (lv_at hl 2 rfl) ?_
    refine x_calli hG hw (va_runV (As := [.int x2]) (rest := []) ⟨hx, hb, hml, hown, hts⟩ (c_X6_isReached (l := l) (G := G) h) (cwV 1 hts gX6_has_X6_isReached rfl rfl rfl (by decide +kernel) ⟨Nat.le_of_ble_eq_true rfl, Nat.le_of_ble_eq_true rfl⟩) (x_preV hG hw xO23 rfl) rfl rfl hl.1 rfl (lv_room (Nat.le_of_ble_eq_true rfl)) dX6_has_6 ⟨Nat.le_of_ble_eq_true rfl, Nat.le_of_ble_eq_true rfl⟩) (fun r_4 A9 L9 H locs hw h => ?_)
    rw [h.2.1, h.2.2] at hw
    have h := h.1
    refine lv_goto (tgt := 34) hx hb dX6_has_9 (by decide) ?_
    exact x_zret hx hb hr hlocks hG hw h.1 ⟨h.2, rfl, rfl⟩ dX6_has_34
theorem c_X6_has {l : Launch} {G : xGt} {x1 : Int32} {x2 : Int32} {A : xM} {L : xL} {post : Int32 → Prop} (h : v_X6_has x1 x2 A L post) : Met l yX6_has wsX6_has rX6_has (va_Pc [.ref (xad G 23), .int x1, .int x2] (xPre G A L)) (xQi G (xpi A L post)) 0 0 (xAf G) :=
  x_met RX6 rfl (by decide) rfl (Nat.le_of_ble_eq_true rfl) (fun p e s m below meth c ls C0 hw hl => t_X6_has_0 C0 hw hl h)
end MECH
abbrev rX6_reached : Room := { frames := 4, cells := 0, slots := 0, locals := 100 }
def v_X6_reached_24 (x1 : Int32) (post : Int32 → xM → xL → Prop) : Nat → Int32 → Int32 → xM → xL → Prop
  | 0, _, _, _, _ => False
  | n + 1, x2, x3, A, L => ((3000 : Int32) < x3 → (post x2 A L)) ∧ (¬ (3000 : Int32) < x3 → (v_X6_has x1 x3 A L (fun (r_2 : Int32) => ((r_2 = 0 → (∀ x2_4 : Int32, x2_4 = (x2 + (0 : Int32)) → (∀ x3_5 : Int32, x3_5 = x3 + (1 : Int32) → (v_X6_reached_24 x1 post n x2_4 x3_5 A L)))) ∧ (¬ r_2 = 0 → (∀ x2_6 : Int32, x2_6 = (x2 + (1 : Int32)) → (∀ x3_7 : Int32, x3_7 = x3 + (1 : Int32) → (v_X6_reached_24 x1 post n x2_6 x3_7 A L))))))))
def v_X6_reached_16 (x1 : Int32) (A : xM) (L : xL) (post : Int32 → xM → xL → Prop) : Prop := v_X6_heap A L (fun (A_1 : xM) (L_2 : xL) => (∃ k9 : Nat, v_X6_reached_24 x1 post k9 (0 : Int32) (1 : Int32) A_1 L_2))
def v_X6_reached (x1 : Int32) (A : xM) (L : xL) (post : Int32 → xM → xL → Prop) : Prop := (x1 = 0 → (v_X6_reached_16 x1 A L post)) ∧ (¬ x1 = 0 → (v_X6_isSet x1 A L (fun (r_2 : Int32) => ((¬ r_2 = 0 → (v_X6_reached_16 x1 A L post)) ∧ (r_2 = 0 → (post (-1002 : Int32) A L))))))
section MECH
variable {p : Program} {l : Launch} {e : Env} {s : State} {m : MethodId} {args : Array Value} {below : List Frame} {meth : Method} {c : Code} {G : xGt}
set_option maxHeartbeats 4000000 in
set_option maxRecDepth 100000 in
theorem t_X6_reached_24 (C0 : xC p s m args meth c G cX6_reached (some .int) wsX6_reached RX6 4) {post : Int32 → xM → xL → Prop} {x1 : Int32} : ∀ (n : Nat) (x2 : Int32) (x3 : Int32) (A : xM) (L : xL) (H : Heap) (locs : List Loc) (ls : Array Slot), xW G s.heap A L H locs → lv_has ls 4 [(0, .ref (xad G 23)), (1, .int x1), (2, .int x2), (3, .int x3)] → v_X6_reached_24 x1 post n x2 x3 A L → W p l e rX6_reached s m args below meth c H locs 0 0 (MQ below (xQi G post) args s 0 0 (xAf G)) (F0 m 24 ls []) := by
  obtain ⟨hx, hb, hr, hts, hown, hml, hlocks, hG⟩ := id C0
  intro n
  induction n with
  | zero => intro x2 x3 A L H locs ls hw hl h; exact (show False from h).elim
  | succ n ih =>
    intro x2 x3 A L H locs ls hw hl h
    unfold v_X6_reached_24 at h
    refine lv_iload_n hx hb dX6_reached_24 rfl (lv_at hl 3 rfl) ?_
    refine lv_sipush (v := 3000) hx hb dX6_reached_25 (by decide) ?_
    refine lv_icmp_gt (tgt := 54) hx hb dX6_reached_28 (by decide) (fun c_1 => ?_) (fun c_1 => ?_)
    · have h := h.1 c_1
      refine lv_iload_n hx hb dX6_reached_54 rfl (lv_at hl 2 rfl) ?_
      exact x_iret hx hb hr hlocks hG hw h dX6_reached_55
    · have h := h.2 c_1
      refine lv_iload_n hx hb dX6_reached_31 rfl (lv_at hl 2 rfl) ?_
      refine lv_aload_n hx hb dX6_reached_32 rfl (lv_at hl 0 rfl) ?_
      refine lv_iload_n hx hb dX6_reached_33 rfl (lv_at hl 1 rfl) ?_
      refine lv_iload_n hx hb dX6_reached_34 rfl (lv_at hl 3 rfl) ?_
      refine x_calli hG hw (va_runV (As := [.int x1, .int x3]) (rest := [.int x2]) ⟨hx, hb, hml, hown, hts⟩ (c_X6_has (l := l) (G := G) h) (cwV 2 hts gX6_reached_X6_has rfl rfl rfl (by decide +kernel) ⟨Nat.le_of_ble_eq_true rfl, Nat.le_of_ble_eq_true rfl⟩) (x_preV hG hw xO23 rfl) rfl rfl hl.1 rfl (lv_room (Nat.le_of_ble_eq_true rfl)) dX6_reached_35 ⟨Nat.le_of_ble_eq_true rfl, Nat.le_of_ble_eq_true rfl⟩) (fun r_2 A9 L9 H locs hw h => ?_)
      rw [h.2.1, h.2.2] at hw
      have h := h.1
      refine lv_if_eq (tgt := 45) hx hb dX6_reached_38 (by decide) (fun c_3 => ?_) (fun c_3 => ?_)
      · have h := h.1 c_3
        refine lv_iconst (v := 0) hx hb dX6_reached_45 (by decide) ?_
        refine lv_iadd hx hb dX6_reached_46 ?_
        refine lv_topi (fun x2_4 ex2_4 => ?_)
        have h := h x2_4 ex2_4
        refine lv_istore_n (lv' := [(2, .int x2_4), (0, .ref (xad G 23)), (1, .int x1), (3, .int x3)]) hx hb dX6_reached_47 rfl hl (by decide) rfl (fun ls hl => ?_)
        obtain ⟨x3_5, ex3_5⟩ : ∃ y : Int32, y = x3 + (1 : Int32) := ⟨_, rfl⟩
        have h := h x3_5 ex3_5
        refine lv_iinc (v := x3_5) (lv' := [(3, .int x3_5), (2, .int x2_4), (0, .ref (xad G 23)), (1, .int x1)]) hx hb dX6_reached_48 hl (k := 3) rfl (by rw [ex3_5]; rfl) (by decide) rfl (fun ls hl => ?_)
        refine lv_goto (tgt := 24) hx hb dX6_reached_51 (by decide) ?_
        exact ih x2_4 x3_5 A L _ _ _ hw (lv_sub hl [2, 3, 1, 0] rfl) h
      · have h := h.2 c_3
        refine lv_iconst (v := 1) hx hb dX6_reached_41 (by decide) ?_
        refine lv_goto (tgt := 46) hx hb dX6_reached_42 (by decide) ?_
        refine lv_iadd hx hb dX6_reached_46 ?_
        refine lv_topi (fun x2_6 ex2_6 => ?_)
        have h := h x2_6 ex2_6
        refine lv_istore_n (lv' := [(2, .int x2_6), (0, .ref (xad G 23)), (1, .int x1), (3, .int x3)]) hx hb dX6_reached_47 rfl hl (by decide) rfl (fun ls hl => ?_)
        obtain ⟨x3_7, ex3_7⟩ : ∃ y : Int32, y = x3 + (1 : Int32) := ⟨_, rfl⟩
        have h := h x3_7 ex3_7
        refine lv_iinc (v := x3_7) (lv' := [(3, .int x3_7), (2, .int x2_6), (0, .ref (xad G 23)), (1, .int x1)]) hx hb dX6_reached_48 hl (k := 3) rfl (by rw [ex3_7]; rfl) (by decide) rfl (fun ls hl => ?_)
        refine lv_goto (tgt := 24) hx hb dX6_reached_51 (by decide) ?_
        exact ih x2_6 x3_7 A L _ _ _ hw (lv_sub hl [2, 3, 1, 0] rfl) h
set_option maxHeartbeats 4000000 in
set_option maxRecDepth 100000 in
theorem t_X6_reached_16 (C0 : xC p s m args meth c G cX6_reached (some .int) wsX6_reached RX6 4) {post : Int32 → xM → xL → Prop} {x1 : Int32} {A : xM} {L : xL} {H : Heap} {locs : List Loc} {ls : Array Slot} (hw : xW G s.heap A L H locs) (hl : lv_has ls 4 [(0, .ref (xad G 23)), (1, .int x1)]) (h : v_X6_reached_16 x1 A L post) : W p l e rX6_reached s m args below meth c H locs 0 0 (MQ below (xQi G post) args s 0 0 (xAf G)) (F0 m 16 ls []) := by
  obtain ⟨hx, hb, hr, hts, hown, hml, hlocks, hG⟩ := id C0
  unfold v_X6_reached_16 at h
  refine lv_aload_n hx hb dX6_reached_16 rfl (lv_at hl 0 rfl) ?_
  refine x_callv hG hw (va_runV (As := []) (rest := []) ⟨hx, hb, hml, hown, hts⟩ (c_X6_heap (l := l) (G := G) h) (cwV 0 hts gX6_reached_X6_heap rfl rfl rfl (by decide +kernel) ⟨Nat.le_of_ble_eq_true rfl, Nat.le_of_ble_eq_true rfl⟩) (x_preV hG hw xO23 rfl) rfl rfl hl.1 rfl (lv_room (Nat.le_of_ble_eq_true rfl)) dX6_reached_17 ⟨Nat.le_of_ble_eq_true rfl, Nat.le_of_ble_eq_true rfl⟩) (fun A_1 L_2 H locs hw h => ?_)
  refine lv_iconst (v := 0) hx hb dX6_reached_20 (by decide) ?_
  refine lv_istore_n (lv' := [(2, .int (0 : Int32)), (0, .ref (xad G 23)), (1, .int x1)]) hx hb dX6_reached_21 rfl hl (by decide) rfl (fun ls hl => ?_)
  refine lv_iconst (v := 1) hx hb dX6_reached_22 (by decide) ?_
  refine lv_istore_n (lv' := [(3, .int (1 : Int32)), (2, .int (0 : Int32)), (0, .ref (xad G 23)), (1, .int x1)]) hx hb dX6_reached_23 rfl hl (by decide) rfl (fun ls hl => ?_)
  obtain ⟨n9, h⟩ := h
  exact t_X6_reached_24 C0 n9 (0 : Int32) (1 : Int32) A_1 L_2 _ _ _ hw (lv_sub hl [2, 3, 1, 0] rfl) h
set_option maxHeartbeats 4000000 in
set_option maxRecDepth 100000 in
theorem t_X6_reached_0 (C0 : xC p s m args meth c G cX6_reached (some .int) wsX6_reached RX6 4) {post : Int32 → xM → xL → Prop} {x1 : Int32} {A : xM} {L : xL} {H : Heap} {locs : List Loc} {ls : Array Slot} (hw : xW G s.heap A L H locs) (hl : lv_has ls 4 [(0, .ref (xad G 23)), (1, .int x1)]) (h : v_X6_reached x1 A L post) : W p l e rX6_reached s m args below meth c H locs 0 0 (MQ below (xQi G post) args s 0 0 (xAf G)) (F0 m 0 ls []) := by
  obtain ⟨hx, hb, hr, hts, hown, hml, hlocks, hG⟩ := id C0
  unfold v_X6_reached at h
  refine lv_iload_n hx hb dX6_reached_0 rfl (lv_at hl 1 rfl) ?_
  refine lv_if_eq (tgt := 16) hx hb dX6_reached_1 (by decide) (fun c_1 => ?_) (fun c_1 => ?_)
  · have h := h.1 c_1
    exact t_X6_reached_16 C0 hw (lv_sub hl [0, 1] rfl) h
  · have h := h.2 c_1
    refine lv_aload_n hx hb dX6_reached_4 rfl (lv_at hl 0 rfl) ?_
    refine lv_iload_n hx hb dX6_reached_5 rfl (lv_at hl 1 rfl) ?_
    refine x_calli hG hw (va_runV (As := [.int x1]) (rest := []) ⟨hx, hb, hml, hown, hts⟩ (c_X6_isSet (l := l) (G := G) h) (cwV 1 hts gX6_reached_X6_isSet rfl rfl rfl (by decide +kernel) ⟨Nat.le_of_ble_eq_true rfl, Nat.le_of_ble_eq_true rfl⟩) (x_preV hG hw xO23 rfl) rfl rfl hl.1 rfl (lv_room (Nat.le_of_ble_eq_true rfl)) dX6_reached_6 ⟨Nat.le_of_ble_eq_true rfl, Nat.le_of_ble_eq_true rfl⟩) (fun r_2 A9 L9 H locs hw h => ?_)
    rw [h.2.1, h.2.2] at hw
    have h := h.1
    refine lv_if_ne (tgt := 16) hx hb dX6_reached_9 (by decide) (fun c_3 => ?_) (fun c_3 => ?_)
    · have h := h.1 c_3
      exact t_X6_reached_16 C0 hw (lv_sub hl [0, 1] rfl) h
    · have h := h.2 c_3
      refine lv_sipush (v := (-1002)) hx hb dX6_reached_12 (by decide) ?_
      exact x_iret hx hb hr hlocks hG hw h dX6_reached_15
theorem c_X6_reached {l : Launch} {G : xGt} {x1 : Int32} {A : xM} {L : xL} {post : Int32 → xM → xL → Prop} (h : v_X6_reached x1 A L post) : Met l yX6_reached wsX6_reached rX6_reached (va_Pc [.ref (xad G 23), .int x1] (xPre G A L)) (xQi G post) 0 0 (xAf G) :=
  x_met RX6 rfl (by decide) rfl (Nat.le_of_ble_eq_true rfl) (fun p e s m below meth c ls C0 hw hl => t_X6_reached_0 C0 hw hl h)
end MECH
abbrev rX6_value : Room := { frames := 4, cells := 0, slots := 0, locals := 100 }
def v_X6_value_25 (x1 : Int32) (x2 : Int32) (post : Int32 → xM → xL → Prop) : Nat → Int32 → Int32 → xM → xL → Prop
  | 0, _, _, _, _ => False
  | n + 1, x3, x4, A, L => ((3000 : Int32) < x4 → (post (-1 : Int32) A L)) ∧ (¬ (3000 : Int32) < x4 → (v_X6_has x1 x4 A L (fun (r_2 : Int32) => ((r_2 = 0 → (∀ x4_4 : Int32, x4_4 = x4 + (1 : Int32) → (v_X6_value_25 x1 x2 post n x3 x4_4 A L))) ∧ (¬ r_2 = 0 → ((¬ x3 = x2 → (∀ x3_6 : Int32, x3_6 = x3 + (1 : Int32) → (∀ x4_7 : Int32, x4_7 = x4 + (1 : Int32) → (v_X6_value_25 x1 x2 post n x3_6 x4_7 A L)))) ∧ (x3 = x2 → (post x4 A L))))))))
def v_X6_value_16 (x1 : Int32) (x2 : Int32) (A : xM) (L : xL) (post : Int32 → xM → xL → Prop) : Prop := v_X6_heap A L (fun (A_1 : xM) (L_2 : xL) => (∃ k9 : Nat, v_X6_value_25 x1 x2 post k9 (0 : Int32) (1 : Int32) A_1 L_2))
def v_X6_value (x1 : Int32) (x2 : Int32) (A : xM) (L : xL) (post : Int32 → xM → xL → Prop) : Prop := (x1 = 0 → (v_X6_value_16 x1 x2 A L post)) ∧ (¬ x1 = 0 → (v_X6_isSet x1 A L (fun (r_2 : Int32) => ((¬ r_2 = 0 → (v_X6_value_16 x1 x2 A L post)) ∧ (r_2 = 0 → (post (-1002 : Int32) A L))))))
section MECH
variable {p : Program} {l : Launch} {e : Env} {s : State} {m : MethodId} {args : Array Value} {below : List Frame} {meth : Method} {c : Code} {G : xGt}
set_option maxHeartbeats 4000000 in
set_option maxRecDepth 100000 in
theorem t_X6_value_25 (C0 : xC p s m args meth c G cX6_value (some .int) wsX6_value RX6 5) {post : Int32 → xM → xL → Prop} {x1 : Int32} {x2 : Int32} : ∀ (n : Nat) (x3 : Int32) (x4 : Int32) (A : xM) (L : xL) (H : Heap) (locs : List Loc) (ls : Array Slot), xW G s.heap A L H locs → lv_has ls 5 [(0, .ref (xad G 23)), (1, .int x1), (2, .int x2), (3, .int x3), (4, .int x4)] → v_X6_value_25 x1 x2 post n x3 x4 A L → W p l e rX6_value s m args below meth c H locs 0 0 (MQ below (xQi G post) args s 0 0 (xAf G)) (F0 m 25 ls []) := by
  obtain ⟨hx, hb, hr, hts, hown, hml, hlocks, hG⟩ := id C0
  intro n
  induction n with
  | zero => intro x3 x4 A L H locs ls hw hl h; exact (show False from h).elim
  | succ n ih =>
    intro x3 x4 A L H locs ls hw hl h
    unfold v_X6_value_25 at h
    refine lv_iload hx hb dX6_value_25 (lv_at hl 4 rfl) ?_
    refine lv_sipush (v := 3000) hx hb dX6_value_27 (by decide) ?_
    refine lv_icmp_gt (tgt := 60) hx hb dX6_value_30 (by decide) (fun c_1 => ?_) (fun c_1 => ?_)
    · have h := h.1 c_1
      refine lv_iconst (v := (-1)) hx hb dX6_value_60 (by decide) ?_
      exact x_iret hx hb hr hlocks hG hw h dX6_value_61
    · have h := h.2 c_1
      refine lv_aload_n hx hb dX6_value_33 rfl (lv_at hl 0 rfl) ?_
      refine lv_iload_n hx hb dX6_value_34 rfl (lv_at hl 1 rfl) ?_
      refine lv_iload hx hb dX6_value_35 (lv_at hl 4 rfl) ?_
      refine x_calli hG hw (va_runV (As := [.int x1, .int x4]) (rest := []) ⟨hx, hb, hml, hown, hts⟩ (c_X6_has (l := l) (G := G) h) (cwV 2 hts gX6_value_X6_has rfl rfl rfl (by decide +kernel) ⟨Nat.le_of_ble_eq_true rfl, Nat.le_of_ble_eq_true rfl⟩) (x_preV hG hw xO23 rfl) rfl rfl hl.1 rfl (lv_room (Nat.le_of_ble_eq_true rfl)) dX6_value_37 ⟨Nat.le_of_ble_eq_true rfl, Nat.le_of_ble_eq_true rfl⟩) (fun r_2 A9 L9 H locs hw h => ?_)
      rw [h.2.1, h.2.2] at hw
      have h := h.1
      refine lv_if_eq (tgt := 54) hx hb dX6_value_40 (by decide) (fun c_3 => ?_) (fun c_3 => ?_)
      · have h := h.1 c_3
        obtain ⟨x4_4, ex4_4⟩ : ∃ y : Int32, y = x4 + (1 : Int32) := ⟨_, rfl⟩
        have h := h x4_4 ex4_4
        refine lv_iinc (v := x4_4) (lv' := [(4, .int x4_4), (0, .ref (xad G 23)), (1, .int x1), (2, .int x2), (3, .int x3)]) hx hb dX6_value_54 hl (k := 4) rfl (by rw [ex4_4]; rfl) (by decide) rfl (fun ls hl => ?_)
        refine lv_goto (tgt := 25) hx hb dX6_value_57 (by decide) ?_
        exact ih x3 x4_4 A L _ _ _ hw (lv_sub hl [1, 2, 3, 4, 0] rfl) h
      · have h := h.2 c_3
        refine lv_iload_n hx hb dX6_value_43 rfl (lv_at hl 3 rfl) ?_
        refine lv_iload_n hx hb dX6_value_44 rfl (lv_at hl 2 rfl) ?_
        refine lv_icmp_ne (tgt := 51) hx hb dX6_value_45 (by decide) (fun c_5 => ?_) (fun c_5 => ?_)
        · have h := h.1 c_5
          obtain ⟨x3_6, ex3_6⟩ : ∃ y : Int32, y = x3 + (1 : Int32) := ⟨_, rfl⟩
          have h := h x3_6 ex3_6
          refine lv_iinc (v := x3_6) (lv' := [(3, .int x3_6), (0, .ref (xad G 23)), (1, .int x1), (2, .int x2), (4, .int x4)]) hx hb dX6_value_51 hl (k := 3) rfl (by rw [ex3_6]; rfl) (by decide) rfl (fun ls hl => ?_)
          obtain ⟨x4_7, ex4_7⟩ : ∃ y : Int32, y = x4 + (1 : Int32) := ⟨_, rfl⟩
          have h := h x4_7 ex4_7
          refine lv_iinc (v := x4_7) (lv' := [(4, .int x4_7), (3, .int x3_6), (0, .ref (xad G 23)), (1, .int x1), (2, .int x2)]) hx hb dX6_value_54 hl (k := 4) rfl (by rw [ex4_7]; rfl) (by decide) rfl (fun ls hl => ?_)
          refine lv_goto (tgt := 25) hx hb dX6_value_57 (by decide) ?_
          exact ih x3_6 x4_7 A L _ _ _ hw (lv_sub hl [2, 3, 4, 1, 0] rfl) h
        · have h := h.2 c_5
          refine lv_iload hx hb dX6_value_48 (lv_at hl 4 rfl) ?_
          exact x_iret hx hb hr hlocks hG hw h dX6_value_50
set_option maxHeartbeats 4000000 in
set_option maxRecDepth 100000 in
theorem t_X6_value_16 (C0 : xC p s m args meth c G cX6_value (some .int) wsX6_value RX6 5) {post : Int32 → xM → xL → Prop} {x1 : Int32} {x2 : Int32} {A : xM} {L : xL} {H : Heap} {locs : List Loc} {ls : Array Slot} (hw : xW G s.heap A L H locs) (hl : lv_has ls 5 [(0, .ref (xad G 23)), (1, .int x1), (2, .int x2)]) (h : v_X6_value_16 x1 x2 A L post) : W p l e rX6_value s m args below meth c H locs 0 0 (MQ below (xQi G post) args s 0 0 (xAf G)) (F0 m 16 ls []) := by
  obtain ⟨hx, hb, hr, hts, hown, hml, hlocks, hG⟩ := id C0
  unfold v_X6_value_16 at h
  refine lv_aload_n hx hb dX6_value_16 rfl (lv_at hl 0 rfl) ?_
  refine x_callv hG hw (va_runV (As := []) (rest := []) ⟨hx, hb, hml, hown, hts⟩ (c_X6_heap (l := l) (G := G) h) (cwV 0 hts gX6_value_X6_heap rfl rfl rfl (by decide +kernel) ⟨Nat.le_of_ble_eq_true rfl, Nat.le_of_ble_eq_true rfl⟩) (x_preV hG hw xO23 rfl) rfl rfl hl.1 rfl (lv_room (Nat.le_of_ble_eq_true rfl)) dX6_value_17 ⟨Nat.le_of_ble_eq_true rfl, Nat.le_of_ble_eq_true rfl⟩) (fun A_1 L_2 H locs hw h => ?_)
  refine lv_iconst (v := 0) hx hb dX6_value_20 (by decide) ?_
  refine lv_istore_n (lv' := [(3, .int (0 : Int32)), (0, .ref (xad G 23)), (1, .int x1), (2, .int x2)]) hx hb dX6_value_21 rfl hl (by decide) rfl (fun ls hl => ?_)
  refine lv_iconst (v := 1) hx hb dX6_value_22 (by decide) ?_
  refine lv_istore (lv' := [(4, .int (1 : Int32)), (3, .int (0 : Int32)), (0, .ref (xad G 23)), (1, .int x1), (2, .int x2)]) hx hb dX6_value_23 hl (by decide) rfl (fun ls hl => ?_)
  obtain ⟨n9, h⟩ := h
  exact t_X6_value_25 C0 n9 (0 : Int32) (1 : Int32) A_1 L_2 _ _ _ hw (lv_sub hl [2, 3, 4, 1, 0] rfl) h
set_option maxHeartbeats 4000000 in
set_option maxRecDepth 100000 in
theorem t_X6_value_0 (C0 : xC p s m args meth c G cX6_value (some .int) wsX6_value RX6 5) {post : Int32 → xM → xL → Prop} {x1 : Int32} {x2 : Int32} {A : xM} {L : xL} {H : Heap} {locs : List Loc} {ls : Array Slot} (hw : xW G s.heap A L H locs) (hl : lv_has ls 5 [(0, .ref (xad G 23)), (1, .int x1), (2, .int x2)]) (h : v_X6_value x1 x2 A L post) : W p l e rX6_value s m args below meth c H locs 0 0 (MQ below (xQi G post) args s 0 0 (xAf G)) (F0 m 0 ls []) := by
  obtain ⟨hx, hb, hr, hts, hown, hml, hlocks, hG⟩ := id C0
  unfold v_X6_value at h
  refine lv_iload_n hx hb dX6_value_0 rfl (lv_at hl 1 rfl) ?_
  refine lv_if_eq (tgt := 16) hx hb dX6_value_1 (by decide) (fun c_1 => ?_) (fun c_1 => ?_)
  · have h := h.1 c_1
    exact t_X6_value_16 C0 hw (lv_sub hl [0, 1, 2] rfl) h
  · have h := h.2 c_1
    refine lv_aload_n hx hb dX6_value_4 rfl (lv_at hl 0 rfl) ?_
    refine lv_iload_n hx hb dX6_value_5 rfl (lv_at hl 1 rfl) ?_
    refine x_calli hG hw (va_runV (As := [.int x1]) (rest := []) ⟨hx, hb, hml, hown, hts⟩ (c_X6_isSet (l := l) (G := G) h) (cwV 1 hts gX6_value_X6_isSet rfl rfl rfl (by decide +kernel) ⟨Nat.le_of_ble_eq_true rfl, Nat.le_of_ble_eq_true rfl⟩) (x_preV hG hw xO23 rfl) rfl rfl hl.1 rfl (lv_room (Nat.le_of_ble_eq_true rfl)) dX6_value_6 ⟨Nat.le_of_ble_eq_true rfl, Nat.le_of_ble_eq_true rfl⟩) (fun r_2 A9 L9 H locs hw h => ?_)
    rw [h.2.1, h.2.2] at hw
    have h := h.1
    refine lv_if_ne (tgt := 16) hx hb dX6_value_9 (by decide) (fun c_3 => ?_) (fun c_3 => ?_)
    · have h := h.1 c_3
      exact t_X6_value_16 C0 hw (lv_sub hl [0, 1, 2] rfl) h
    · have h := h.2 c_3
      refine lv_sipush (v := (-1002)) hx hb dX6_value_12 (by decide) ?_
      exact x_iret hx hb hr hlocks hG hw h dX6_value_15
theorem c_X6_value {l : Launch} {G : xGt} {x1 : Int32} {x2 : Int32} {A : xM} {L : xL} {post : Int32 → xM → xL → Prop} (h : v_X6_value x1 x2 A L post) : Met l yX6_value wsX6_value rX6_value (va_Pc [.ref (xad G 23), .int x1, .int x2] (xPre G A L)) (xQi G post) 0 0 (xAf G) :=
  x_met RX6 rfl (by decide) rfl (Nat.le_of_ble_eq_true rfl) (fun p e s m below meth c ls C0 hw hl => t_X6_value_0 C0 hw hl h)
end MECH
abbrev rX6_missing : Room := { frames := 4, cells := 0, slots := 0, locals := 100 }
def v_X6_missing_6 (post : Int32 → xM → xL → Prop) : Nat → Int32 → xM → xL → Prop
  | 0, _, _, _ => False
  | n + 1, x1, A, L => ((3000 : Int32) < x1 → (post x1 A L)) ∧ (¬ (3000 : Int32) < x1 → (v_X6_isReached x1 A L (fun (r_2 : Int32) => ((r_2 = 0 → (post x1 A L)) ∧ (¬ r_2 = 0 → (∀ x1_4 : Int32, x1_4 = x1 + (1 : Int32) → (v_X6_missing_6 post n x1_4 A L)))))))
def v_X6_missing (A : xM) (L : xL) (post : Int32 → xM → xL → Prop) : Prop := v_X6_heap A L (fun (A_1 : xM) (L_2 : xL) => (∃ k9 : Nat, v_X6_missing_6 post k9 (1 : Int32) A_1 L_2))
section MECH
variable {p : Program} {l : Launch} {e : Env} {s : State} {m : MethodId} {args : Array Value} {below : List Frame} {meth : Method} {c : Code} {G : xGt}
set_option maxHeartbeats 4000000 in
set_option maxRecDepth 100000 in
theorem t_X6_missing_6 (C0 : xC p s m args meth c G cX6_missing (some .int) wsX6_missing RX6 2) {post : Int32 → xM → xL → Prop} : ∀ (n : Nat) (x1 : Int32) (A : xM) (L : xL) (H : Heap) (locs : List Loc) (ls : Array Slot), xW G s.heap A L H locs → lv_has ls 2 [(0, .ref (xad G 23)), (1, .int x1)] → v_X6_missing_6 post n x1 A L → W p l e rX6_missing s m args below meth c H locs 0 0 (MQ below (xQi G post) args s 0 0 (xAf G)) (F0 m 6 ls []) := by
  obtain ⟨hx, hb, hr, hts, hown, hml, hlocks, hG⟩ := id C0
  intro n
  induction n with
  | zero => intro x1 A L H locs ls hw hl h; exact (show False from h).elim
  | succ n ih =>
    intro x1 A L H locs ls hw hl h
    unfold v_X6_missing_6 at h
    refine lv_iload_n hx hb dX6_missing_6 rfl (lv_at hl 1 rfl) ?_
    refine lv_sipush (v := 3000) hx hb dX6_missing_7 (by decide) ?_
    refine lv_icmp_gt (tgt := 27) hx hb dX6_missing_10 (by decide) (fun c_1 => ?_) (fun c_1 => ?_)
    · have h := h.1 c_1
      refine lv_iload_n hx hb dX6_missing_27 rfl (lv_at hl 1 rfl) ?_
      exact x_iret hx hb hr hlocks hG hw h dX6_missing_28
    · have h := h.2 c_1
      refine lv_aload_n hx hb dX6_missing_13 rfl (lv_at hl 0 rfl) ?_
      refine lv_iload_n hx hb dX6_missing_14 rfl (lv_at hl 1 rfl) ?_
      refine x_calli hG hw (va_runV (As := [.int x1]) (rest := []) ⟨hx, hb, hml, hown, hts⟩ (c_X6_isReached (l := l) (G := G) h) (cwV 1 hts gX6_missing_X6_isReached rfl rfl rfl (by decide +kernel) ⟨Nat.le_of_ble_eq_true rfl, Nat.le_of_ble_eq_true rfl⟩) (x_preV hG hw xO23 rfl) rfl rfl hl.1 rfl (lv_room (Nat.le_of_ble_eq_true rfl)) dX6_missing_15 ⟨Nat.le_of_ble_eq_true rfl, Nat.le_of_ble_eq_true rfl⟩) (fun r_2 A9 L9 H locs hw h => ?_)
      rw [h.2.1, h.2.2] at hw
      have h := h.1
      refine lv_if_eq (tgt := 27) hx hb dX6_missing_18 (by decide) (fun c_3 => ?_) (fun c_3 => ?_)
      · have h := h.1 c_3
        refine lv_iload_n hx hb dX6_missing_27 rfl (lv_at hl 1 rfl) ?_
        exact x_iret hx hb hr hlocks hG hw h dX6_missing_28
      · have h := h.2 c_3
        obtain ⟨x1_4, ex1_4⟩ : ∃ y : Int32, y = x1 + (1 : Int32) := ⟨_, rfl⟩
        have h := h x1_4 ex1_4
        refine lv_iinc (v := x1_4) (lv' := [(1, .int x1_4), (0, .ref (xad G 23))]) hx hb dX6_missing_21 hl (k := 1) rfl (by rw [ex1_4]; rfl) (by decide) rfl (fun ls hl => ?_)
        refine lv_goto (tgt := 6) hx hb dX6_missing_24 (by decide) ?_
        exact ih x1_4 A L _ _ _ hw (lv_sub hl [1, 0] rfl) h
set_option maxHeartbeats 4000000 in
set_option maxRecDepth 100000 in
theorem t_X6_missing_0 (C0 : xC p s m args meth c G cX6_missing (some .int) wsX6_missing RX6 2) {post : Int32 → xM → xL → Prop} {A : xM} {L : xL} {H : Heap} {locs : List Loc} {ls : Array Slot} (hw : xW G s.heap A L H locs) (hl : lv_has ls 2 [(0, .ref (xad G 23))]) (h : v_X6_missing A L post) : W p l e rX6_missing s m args below meth c H locs 0 0 (MQ below (xQi G post) args s 0 0 (xAf G)) (F0 m 0 ls []) := by
  obtain ⟨hx, hb, hr, hts, hown, hml, hlocks, hG⟩ := id C0
  unfold v_X6_missing at h
  refine lv_aload_n hx hb dX6_missing_0 rfl (lv_at hl 0 rfl) ?_
  refine x_callv hG hw (va_runV (As := []) (rest := []) ⟨hx, hb, hml, hown, hts⟩ (c_X6_heap (l := l) (G := G) h) (cwV 0 hts gX6_missing_X6_heap rfl rfl rfl (by decide +kernel) ⟨Nat.le_of_ble_eq_true rfl, Nat.le_of_ble_eq_true rfl⟩) (x_preV hG hw xO23 rfl) rfl rfl hl.1 rfl (lv_room (Nat.le_of_ble_eq_true rfl)) dX6_missing_1 ⟨Nat.le_of_ble_eq_true rfl, Nat.le_of_ble_eq_true rfl⟩) (fun A_1 L_2 H locs hw h => ?_)
  refine lv_iconst (v := 1) hx hb dX6_missing_4 (by decide) ?_
  refine lv_istore_n (lv' := [(1, .int (1 : Int32)), (0, .ref (xad G 23))]) hx hb dX6_missing_5 rfl hl (by decide) rfl (fun ls hl => ?_)
  obtain ⟨n9, h⟩ := h
  exact t_X6_missing_6 C0 n9 (1 : Int32) A_1 L_2 _ _ _ hw (lv_sub hl [1, 0] rfl) h
theorem c_X6_missing {l : Launch} {G : xGt} {A : xM} {L : xL} {post : Int32 → xM → xL → Prop} (h : v_X6_missing A L post) : Met l yX6_missing wsX6_missing rX6_missing (va_Pc [.ref (xad G 23)] (xPre G A L)) (xQi G post) 0 0 (xAf G) :=
  x_met RX6 rfl (by decide) rfl (Nat.le_of_ble_eq_true rfl) (fun p e s m below meth c ls C0 hw hl => t_X6_missing_0 C0 hw hl h)
end MECH
