abbrev rX1_make : Room := { frames := 2, cells := 0, slots := 0, locals := 58 }
theorem inX1_make_X1 : ∀ w ∈ wsX10, w ∈ wsX1_make := fun w h => List.mem_cons_of_mem _ (List.mem_append_left _ (List.mem_append_right _ h))
def v_X1_make_47 (q : Nat) (x1 : Int32) (x2 : Int32) (post : xM → xL → Prop) : Nat → Int32 → xM → xL → Prop
  | 0, _, _, _ => False
  | n + 1, x3, A, L => (x1 ≤ x3 → (post A L)) ∧ (¬ x1 ≤ x3 → ((¬ (x3 &&& x1) = x3 → (∀ x3_3 : Int32, x3_3 = x3 + (1 : Int32) → (v_X1_make_47 q x1 x2 post n x3_3 A L))) ∧ ((x3 &&& x1) = x3 → (((x3 &&& x2) = 0 → (∀ x3_5 : Int32, x3_5 = x3 + (1 : Int32) → (v_X1_make_47 q x1 x2 post n x3_5 A L))) ∧ (¬ (x3 &&& x2) = 0 → (v_X1_join q x1 x3 (x1 ^^^ x3) A L (fun (A_6 : xM) (L_7 : xL) => (∀ x3_8 : Int32, x3_8 = x3 + (1 : Int32) → (v_X1_make_47 q x1 x2 post n x3_8 A_6 L_7)))))))))
def v_X1_make_2 (q : Nat) (x1 : Int32) (post : xM → xL → Prop) : Nat → Int32 → xM → xL → Prop
  | 0, _, _, _ => False
  | n + 1, x2, A, L => ((nI (6 - 2 * q)) ≤ x2 → (∀ x2_2 : Int32, x2_2 = (x1 &&& (-x1)) → (∃ k9 : Nat, v_X1_make_47 q x1 x2_2 post k9 x2_2 A L))) ∧ (¬ (nI (6 - 2 * q)) ≤ x2 → ((¬ x1 = ((1 : Int32) <<< (x2 &&& 31)) → (∀ x2_4 : Int32, x2_4 = x2 + (1 : Int32) → (v_X1_make_2 q x1 post n x2_4 A L))) ∧ (x1 = ((1 : Int32) <<< (x2 &&& 31)) → (vp_in x2 (6 - 2 * q) ∧ (v_X1_add q x1 (A (3 + 6 * q) x2.toNatClampNeg) (1 : Int64) (3000 : Int32) A L (fun (A_6 : xM) (L_7 : xL) => (post A_6 L_7)))))))
def v_X1_make (q : Nat) (x1 : Int32) (A : xM) (L : xL) (post : xM → xL → Prop) : Prop := ∃ k9 : Nat, v_X1_make_2 q x1 post k9 (0 : Int32) A L
section MECH
variable {p : Program} {l : Launch} {e : Env} {s : State} {m : MethodId} {args : Array Value} {below : List Frame} {meth : Method} {c : Code} {G : xGt}
set_option maxHeartbeats 4000000 in
set_option maxRecDepth 100000 in
theorem t_X1_make_47 (C0 : xC p s m args meth c G cX1_make none wsX1_make RX1 4) {q : Nat} (hq : q < 2) {post : xM → xL → Prop} {x1 : Int32} {x2 : Int32} : ∀ (n : Nat) (x3 : Int32) (A : xM) (L : xL) (H : Heap) (locs : List Loc) (ls : Array Slot), xW G s.heap A L H locs → lv_has ls 4 [(0, .ref (xad G (2 + 6 * q))), (1, .int x1), (2, .int x2), (3, .int x3)] → v_X1_make_47 q x1 x2 post n x3 A L → W p l e rX1_make s m args below meth c H locs 0 0 (MQ below (xQv G post) args s 0 0 (xAf G)) (F0 m 47 ls []) := by
  obtain ⟨hx, hb, hr, hts, hown, hml, hlocks, hG⟩ := id C0
  intro n
  induction n with
  | zero => intro x3 A L H locs ls hw hl h; exact (show False from h).elim
  | succ n ih =>
    intro x3 A L H locs ls hw hl h
    unfold v_X1_make_47 at h
    refine lv_iload_n hx hb dX1_make_47 rfl (lv_at hl 3 rfl) ?_
    refine lv_iload_n hx hb dX1_make_48 rfl (lv_at hl 1 rfl) ?_
    refine lv_icmp_ge (tgt := 80) hx hb dX1_make_49 (by decide) (fun c_1 => ?_) (fun c_1 => ?_)
    · have h := h.1 c_1
      exact x_vret hx hb hr hlocks hG hw h dX1_make_80
    · have h := h.2 c_1
      refine lv_iload_n hx hb dX1_make_52 rfl (lv_at hl 3 rfl) ?_
      refine lv_iload_n hx hb dX1_make_53 rfl (lv_at hl 1 rfl) ?_
      refine lv_iand hx hb dX1_make_54 ?_
      refine lv_iload_n hx hb dX1_make_55 rfl (lv_at hl 3 rfl) ?_
      refine lv_icmp_ne (tgt := 74) hx hb dX1_make_56 (by decide) (fun c_2 => ?_) (fun c_2 => ?_)
      · have h := h.1 c_2
        obtain ⟨x3_3, ex3_3⟩ : ∃ y : Int32, y = x3 + (1 : Int32) := ⟨_, rfl⟩
        have h := h x3_3 ex3_3
        refine lv_iinc (v := x3_3) (lv' := [(3, .int x3_3), (0, .ref (xad G (2 + 6 * q))), (1, .int x1), (2, .int x2)]) hx hb dX1_make_74 hl (k := 3) rfl (by rw [ex3_3]; rfl) (by decide) rfl (fun ls hl => ?_)
        refine lv_goto (tgt := 47) hx hb dX1_make_77 (by decide) ?_
        exact ih x3_3 A L _ _ _ hw (lv_sub hl [1, 2, 3, 0] rfl) h
      · have h := h.2 c_2
        refine lv_iload_n hx hb dX1_make_59 rfl (lv_at hl 3 rfl) ?_
        refine lv_iload_n hx hb dX1_make_60 rfl (lv_at hl 2 rfl) ?_
        refine lv_iand hx hb dX1_make_61 ?_
        refine lv_if_eq (tgt := 74) hx hb dX1_make_62 (by decide) (fun c_4 => ?_) (fun c_4 => ?_)
        · have h := h.1 c_4
          obtain ⟨x3_5, ex3_5⟩ : ∃ y : Int32, y = x3 + (1 : Int32) := ⟨_, rfl⟩
          have h := h x3_5 ex3_5
          refine lv_iinc (v := x3_5) (lv' := [(3, .int x3_5), (0, .ref (xad G (2 + 6 * q))), (1, .int x1), (2, .int x2)]) hx hb dX1_make_74 hl (k := 3) rfl (by rw [ex3_5]; rfl) (by decide) rfl (fun ls hl => ?_)
          refine lv_goto (tgt := 47) hx hb dX1_make_77 (by decide) ?_
          exact ih x3_5 A L _ _ _ hw (lv_sub hl [1, 2, 3, 0] rfl) h
        · have h := h.2 c_4
          refine lv_aload_n hx hb dX1_make_65 rfl (lv_at hl 0 rfl) ?_
          refine lv_iload_n hx hb dX1_make_66 rfl (lv_at hl 1 rfl) ?_
          refine lv_iload_n hx hb dX1_make_67 rfl (lv_at hl 3 rfl) ?_
          refine lv_iload_n hx hb dX1_make_68 rfl (lv_at hl 1 rfl) ?_
          refine lv_iload_n hx hb dX1_make_69 rfl (lv_at hl 3 rfl) ?_
          refine lv_ixor hx hb dX1_make_70 ?_
          refine x_callv hG hw (va_runV (As := [.int x1, .int x3, .int (x1 ^^^ x3)]) (rest := []) ⟨hx, hb, hml, hown, hts⟩ (c_X1_join (l := l) (G := G) hq h) (cwV 3 hts gX1_make_X1_join rfl rfl rfl (by decide +kernel) ⟨Nat.le_of_ble_eq_true rfl, Nat.le_of_ble_eq_true rfl⟩) (x_preV hG hw (xOh hq) rfl) rfl rfl hl.1 rfl (lv_room (Nat.le_of_ble_eq_true rfl)) dX1_make_71 ⟨Nat.le_of_ble_eq_true rfl, Nat.le_of_ble_eq_true rfl⟩) (fun A_6 L_7 H locs hw h => ?_)
          obtain ⟨x3_8, ex3_8⟩ : ∃ y : Int32, y = x3 + (1 : Int32) := ⟨_, rfl⟩
          have h := h x3_8 ex3_8
          refine lv_iinc (v := x3_8) (lv' := [(3, .int x3_8), (0, .ref (xad G (2 + 6 * q))), (1, .int x1), (2, .int x2)]) hx hb dX1_make_74 hl (k := 3) rfl (by rw [ex3_8]; rfl) (by decide) rfl (fun ls hl => ?_)
          refine lv_goto (tgt := 47) hx hb dX1_make_77 (by decide) ?_
          exact ih x3_8 A_6 L_7 _ _ _ hw (lv_sub hl [1, 2, 3, 0] rfl) h
set_option maxHeartbeats 4000000 in
set_option maxRecDepth 100000 in
theorem t_X1_make_2 (C0 : xC p s m args meth c G cX1_make none wsX1_make RX1 4) {q : Nat} (hq : q < 2) {post : xM → xL → Prop} {x1 : Int32} : ∀ (n : Nat) (x2 : Int32) (A : xM) (L : xL) (H : Heap) (locs : List Loc) (ls : Array Slot), xW G s.heap A L H locs → lv_has ls 4 [(0, .ref (xad G (2 + 6 * q))), (1, .int x1), (2, .int x2)] → v_X1_make_2 q x1 post n x2 A L → W p l e rX1_make s m args below meth c H locs 0 0 (MQ below (xQv G post) args s 0 0 (xAf G)) (F0 m 2 ls []) := by
  obtain ⟨hx, hb, hr, hts, hown, hml, hlocks, hG⟩ := id C0
  intro n
  induction n with
  | zero => intro x2 A L H locs ls hw hl h; exact (show False from h).elim
  | succ n ih =>
    intro x2 A L H locs ls hw hl h
    unfold v_X1_make_2 at h
    refine lv_iload_n hx hb dX1_make_2 rfl (lv_at hl 2 rfl) ?_
    refine lv_aload_n hx hb dX1_make_3 rfl (lv_at hl 0 rfl) ?_
    refine x_get (C := RX1) (T := TX1) (N := 8) hx hb hts inX1_make_X1 hown hG hw (xOh hq) rfl 1 (by decide) (hts (.fieldLink RX1 22 "SixNumbers$Heap" "items" "[I") (List.mem_of_getElem? (i := 1) rfl)) (fun _ h9 => h9) (v := .ref (xad G (3 + 6 * q))) (xf_h1 hq) dX1_make_4 ?_
    refine x_alenI hx hb hG hw (xhI hq) dX1_make_7 ?_
    refine lv_icmp_ge (tgt := 40) hx hb dX1_make_8 (by decide) (fun c_1 => ?_) (fun c_1 => ?_)
    · have h := h.1 c_1
      refine lv_iload_n hx hb dX1_make_40 rfl (lv_at hl 1 rfl) ?_
      refine lv_iload_n hx hb dX1_make_41 rfl (lv_at hl 1 rfl) ?_
      refine lv_ineg hx hb dX1_make_42 ?_
      refine lv_iand hx hb dX1_make_43 ?_
      refine lv_topi (fun x2_2 ex2_2 => ?_)
      have h := h x2_2 ex2_2
      refine lv_istore_n (lv' := [(2, .int x2_2), (0, .ref (xad G (2 + 6 * q))), (1, .int x1)]) hx hb dX1_make_44 rfl hl (by decide) rfl (fun ls hl => ?_)
      refine lv_iload_n hx hb dX1_make_45 rfl (lv_at hl 0 rfl) ?_
      refine lv_istore_n (lv' := [(3, .int x2_2), (2, .int x2_2), (0, .ref (xad G (2 + 6 * q))), (1, .int x1)]) hx hb dX1_make_46 rfl hl (by decide) rfl (fun ls hl => ?_)
      obtain ⟨n9, h⟩ := h
      exact t_X1_make_47 C0 hq n9 x2_2 A L _ _ _ hw (lv_sub hl [2, 3, 1, 0] rfl) h
    · have h := h.2 c_1
      refine lv_iload_n hx hb dX1_make_11 rfl (lv_at hl 1 rfl) ?_
      refine lv_iconst (v := 1) hx hb dX1_make_12 (by decide) ?_
      refine lv_iload_n hx hb dX1_make_13 rfl (lv_at hl 2 rfl) ?_
      refine lv_ishl hx hb dX1_make_14 ?_
      refine lv_icmp_ne (tgt := 34) hx hb dX1_make_15 (by decide) (fun c_3 => ?_) (fun c_3 => ?_)
      · have h := h.1 c_3
        obtain ⟨x2_4, ex2_4⟩ : ∃ y : Int32, y = x2 + (1 : Int32) := ⟨_, rfl⟩
        have h := h x2_4 ex2_4
        refine lv_iinc (v := x2_4) (lv' := [(2, .int x2_4), (0, .ref (xad G (2 + 6 * q))), (1, .int x1)]) hx hb dX1_make_34 hl (k := 2) rfl (by rw [ex2_4]; rfl) (by decide) rfl (fun ls hl => ?_)
        refine lv_goto (tgt := 2) hx hb dX1_make_37 (by decide) ?_
        exact ih x2_4 A L _ _ _ hw (lv_sub hl [1, 2, 0] rfl) h
      · have h := h.2 c_3
        refine lv_aload_n hx hb dX1_make_18 rfl (lv_at hl 0 rfl) ?_
        refine lv_iload_n hx hb dX1_make_19 rfl (lv_at hl 1 rfl) ?_
        refine lv_aload_n hx hb dX1_make_20 rfl (lv_at hl 0 rfl) ?_
        refine x_get (C := RX1) (T := TX1) (N := 8) hx hb hts inX1_make_X1 hown hG hw (xOh hq) rfl 1 (by decide) (hts (.fieldLink RX1 22 "SixNumbers$Heap" "items" "[I") (List.mem_of_getElem? (i := 1) rfl)) (fun _ h9 => h9) (v := .ref (xad G (3 + 6 * q))) (xf_h1 hq) dX1_make_21 ?_
        refine lv_iload_n hx hb dX1_make_24 rfl (lv_at hl 2 rfl) ?_
        have i_5 := h.1
        have h := h.2
        refine x_iald hx hb hG hw (xhI hq) i_5 dX1_make_25 ?_
        refine lv_lconst (v := 1) hx hb dX1_make_26 (by decide) ?_
        refine lv_sipush (v := 3000) hx hb dX1_make_27 (by decide) ?_
        refine x_callv hG hw (va_runV (As := [.int x1, .int (A (3 + 6 * q) x2.toNatClampNeg), .long (1 : Int64), .int (3000 : Int32)]) (rest := []) ⟨hx, hb, hml, hown, hts⟩ (c_X1_add (l := l) (G := G) hq h) (cwV 4 hts gX1_make_X1_add rfl rfl rfl (by decide +kernel) ⟨Nat.le_of_ble_eq_true rfl, Nat.le_of_ble_eq_true rfl⟩) (x_preV hG hw (xOh hq) rfl) rfl rfl hl.1 rfl (lv_room (Nat.le_of_ble_eq_true rfl)) dX1_make_30 ⟨Nat.le_of_ble_eq_true rfl, Nat.le_of_ble_eq_true rfl⟩) (fun A_6 L_7 H locs hw h => ?_)
        exact x_vret hx hb hr hlocks hG hw h dX1_make_33
set_option maxHeartbeats 4000000 in
set_option maxRecDepth 100000 in
theorem t_X1_make_0 (C0 : xC p s m args meth c G cX1_make none wsX1_make RX1 4) {q : Nat} (hq : q < 2) {post : xM → xL → Prop} {x1 : Int32} {A : xM} {L : xL} {H : Heap} {locs : List Loc} {ls : Array Slot} (hw : xW G s.heap A L H locs) (hl : lv_has ls 4 [(0, .ref (xad G (2 + 6 * q))), (1, .int x1)]) (h : v_X1_make q x1 A L post) : W p l e rX1_make s m args below meth c H locs 0 0 (MQ below (xQv G post) args s 0 0 (xAf G)) (F0 m 0 ls []) := by
  obtain ⟨hx, hb, hr, hts, hown, hml, hlocks, hG⟩ := id C0
  unfold v_X1_make at h
  refine lv_iconst (v := 0) hx hb dX1_make_0 (by decide) ?_
  refine lv_istore_n (lv' := [(2, .int (0 : Int32)), (0, .ref (xad G (2 + 6 * q))), (1, .int x1)]) hx hb dX1_make_1 rfl hl (by decide) rfl (fun ls hl => ?_)
  obtain ⟨n9, h⟩ := h
  exact t_X1_make_2 C0 hq n9 (0 : Int32) A L _ _ _ hw (lv_sub hl [1, 2, 0] rfl) h
theorem c_X1_make {l : Launch} {G : xGt} {q : Nat} (hq : q < 2) {x1 : Int32} {A : xM} {L : xL} {post : xM → xL → Prop} (h : v_X1_make q x1 A L post) : Met l yX1_make wsX1_make rX1_make (va_Pc [.ref (xad G (2 + 6 * q)), .int x1] (xPre G A L)) (xQv G post) 0 0 (xAf G) :=
  x_met RX1 rfl (by decide) rfl (Nat.le_of_ble_eq_true rfl) (fun p e s m below meth c ls C0 hw hl => t_X1_make_0 C0 hq hw hl h)
end MECH
abbrev rX1_refresh : Room := { frames := 3, cells := 0, slots := 0, locals := 81 }
theorem inX1_refresh_X1 : ∀ w ∈ wsX10, w ∈ wsX1_refresh := fun w h => List.mem_cons_of_mem _ (List.mem_append_left _ (List.mem_append_right _ h))
def v_X1_refresh_10 (q : Nat) (post : xM → xL → Prop) : Nat → Int32 → xM → xL → Prop
  | 0, _, _, _ => False
  | n + 1, x1, A, L => ((nI (64 - 48 * q)) ≤ x1 → (∀ A_2 : xM, A_2 = xu A (2 + 6 * q) 7 (0 : Int32) → (post A_2 L))) ∧ (¬ (nI (64 - 48 * q)) ≤ x1 → (((x1 &&& (A (2 + 6 * q) 7)) = 0 → (∀ x1_4 : Int32, x1_4 = x1 + (1 : Int32) → (v_X1_refresh_10 q post n x1_4 A L))) ∧ (¬ (x1 &&& (A (2 + 6 * q) 7)) = 0 → (v_X1_forget q x1 A L (fun (A_5 : xM) (L_6 : xL) => (v_X1_knows q x1 A_5 L_6 (fun (r_7 : Int32) => ((r_7 = 0 → (∀ x1_9 : Int32, x1_9 = x1 + (1 : Int32) → (v_X1_refresh_10 q post n x1_9 A_5 L_6))) ∧ (¬ r_7 = 0 → (v_X1_make q x1 A_5 L_6 (fun (A_10 : xM) (L_11 : xL) => (∀ x1_12 : Int32, x1_12 = x1 + (1 : Int32) → (v_X1_refresh_10 q post n x1_12 A_10 L_11)))))))))))))
def v_X1_refresh (q : Nat) (A : xM) (L : xL) (post : xM → xL → Prop) : Prop := (¬ (A (2 + 6 * q) 7) = 0 → (∃ k9 : Nat, v_X1_refresh_10 q post k9 (1 : Int32) A L)) ∧ ((A (2 + 6 * q) 7) = 0 → (post A L))
section MECH
variable {p : Program} {l : Launch} {e : Env} {s : State} {m : MethodId} {args : Array Value} {below : List Frame} {meth : Method} {c : Code} {G : xGt}
set_option maxHeartbeats 4000000 in
set_option maxRecDepth 100000 in
theorem t_X1_refresh_10 (C0 : xC p s m args meth c G cX1_refresh none wsX1_refresh RX1 2) {q : Nat} (hq : q < 2) {post : xM → xL → Prop} : ∀ (n : Nat) (x1 : Int32) (A : xM) (L : xL) (H : Heap) (locs : List Loc) (ls : Array Slot), xW G s.heap A L H locs → lv_has ls 2 [(0, .ref (xad G (2 + 6 * q))), (1, .int x1)] → v_X1_refresh_10 q post n x1 A L → W p l e rX1_refresh s m args below meth c H locs 0 0 (MQ below (xQv G post) args s 0 0 (xAf G)) (F0 m 10 ls []) := by
  obtain ⟨hx, hb, hr, hts, hown, hml, hlocks, hG⟩ := id C0
  intro n
  induction n with
  | zero => intro x1 A L H locs ls hw hl h; exact (show False from h).elim
  | succ n ih =>
    intro x1 A L H locs ls hw hl h
    unfold v_X1_refresh_10 at h
    refine lv_iload_n hx hb dX1_refresh_10 rfl (lv_at hl 1 rfl) ?_
    refine lv_aload_n hx hb dX1_refresh_11 rfl (lv_at hl 0 rfl) ?_
    refine x_get (C := RX1) (T := TX1) (N := 8) hx hb hts inX1_refresh_X1 hown hG hw (xOh hq) rfl 4 (by decide) (hts (.fieldLink RX1 36 "SixNumbers$Heap" "founds" "[I") (List.mem_of_getElem? (i := 2) rfl)) (fun _ h9 => h9) (v := .ref (xad G (6 + 6 * q))) (xf_h4 hq) dX1_refresh_12 ?_
    refine x_alenI hx hb hG hw (xhN hq) dX1_refresh_15 ?_
    refine lv_icmp_ge (tgt := 52) hx hb dX1_refresh_16 (by decide) (fun c_1 => ?_) (fun c_1 => ?_)
    · have h := h.1 c_1
      refine lv_aload_n hx hb dX1_refresh_52 rfl (lv_at hl 0 rfl) ?_
      refine lv_iconst (v := 0) hx hb dX1_refresh_53 (by decide) ?_
      refine x_put (C := RX1) (T := TX1) (N := 8) hx hb hts inX1_refresh_X1 tyX1 tyX1_ok nmX1 hown hG hw (xOh hq) rfl 7 (by decide) (hts (.fieldLink RX1 15 "SixNumbers$Heap" "changed" "I") (List.mem_of_getElem? (i := 1) rfl)) (fun _ h9 => h9) rfl (ty := .int) (by decide +kernel) rfl rfl (xf_l hq 7 (by decide)) (xf_s7 hq _ _ _) dX1_refresh_54 (fun A_2 H locs eA_2 hw => ?_)
      have h := h A_2 eA_2
      exact x_vret hx hb hr hlocks hG hw h dX1_refresh_57
    · have h := h.2 c_1
      refine lv_iload_n hx hb dX1_refresh_19 rfl (lv_at hl 1 rfl) ?_
      refine lv_aload_n hx hb dX1_refresh_20 rfl (lv_at hl 0 rfl) ?_
      refine x_get (C := RX1) (T := TX1) (N := 8) hx hb hts inX1_refresh_X1 hown hG hw (xOh hq) rfl 7 (by decide) (hts (.fieldLink RX1 15 "SixNumbers$Heap" "changed" "I") (List.mem_of_getElem? (i := 1) rfl)) (fun _ h9 => h9) (v := .int (A (2 + 6 * q) 7)) (xf_v7 hq) dX1_refresh_21 ?_
      refine lv_iand hx hb dX1_refresh_24 ?_
      refine lv_if_eq (tgt := 46) hx hb dX1_refresh_25 (by decide) (fun c_3 => ?_) (fun c_3 => ?_)
      · have h := h.1 c_3
        obtain ⟨x1_4, ex1_4⟩ : ∃ y : Int32, y = x1 + (1 : Int32) := ⟨_, rfl⟩
        have h := h x1_4 ex1_4
        refine lv_iinc (v := x1_4) (lv' := [(1, .int x1_4), (0, .ref (xad G (2 + 6 * q)))]) hx hb dX1_refresh_46 hl (k := 1) rfl (by rw [ex1_4]; rfl) (by decide) rfl (fun ls hl => ?_)
        refine lv_goto (tgt := 10) hx hb dX1_refresh_49 (by decide) ?_
        exact ih x1_4 A L _ _ _ hw (lv_sub hl [1, 0] rfl) h
      · have h := h.2 c_3
        refine lv_aload_n hx hb dX1_refresh_28 rfl (lv_at hl 0 rfl) ?_
        refine lv_iload_n hx hb dX1_refresh_29 rfl (lv_at hl 1 rfl) ?_
        refine x_callv hG hw (va_runV (As := [.int x1]) (rest := []) ⟨hx, hb, hml, hown, hts⟩ (c_X1_forget (l := l) (G := G) hq h) (cwV 1 hts gX1_refresh_X1_forget rfl rfl rfl (by decide +kernel) ⟨Nat.le_of_ble_eq_true rfl, Nat.le_of_ble_eq_true rfl⟩) (x_preV hG hw (xOh hq) rfl) rfl rfl hl.1 rfl (lv_room (Nat.le_of_ble_eq_true rfl)) dX1_refresh_30 ⟨Nat.le_of_ble_eq_true rfl, Nat.le_of_ble_eq_true rfl⟩) (fun A_5 L_6 H locs hw h => ?_)
        refine lv_aload_n hx hb dX1_refresh_33 rfl (lv_at hl 0 rfl) ?_
        refine lv_iload_n hx hb dX1_refresh_34 rfl (lv_at hl 1 rfl) ?_
        refine x_calli hG hw (va_runV (As := [.int x1]) (rest := []) ⟨hx, hb, hml, hown, hts⟩ (c_X1_knows (l := l) (G := G) hq h) (cwV 1 hts gX1_refresh_X1_knows rfl rfl rfl (by decide +kernel) ⟨Nat.le_of_ble_eq_true rfl, Nat.le_of_ble_eq_true rfl⟩) (x_preV hG hw (xOh hq) rfl) rfl rfl hl.1 rfl (lv_room (Nat.le_of_ble_eq_true rfl)) dX1_refresh_35 ⟨Nat.le_of_ble_eq_true rfl, Nat.le_of_ble_eq_true rfl⟩) (fun r_7 A9 L9 H locs hw h => ?_)
        rw [h.2.1, h.2.2] at hw
        have h := h.1
        refine lv_if_eq (tgt := 46) hx hb dX1_refresh_38 (by decide) (fun c_8 => ?_) (fun c_8 => ?_)
        · have h := h.1 c_8
          obtain ⟨x1_9, ex1_9⟩ : ∃ y : Int32, y = x1 + (1 : Int32) := ⟨_, rfl⟩
          have h := h x1_9 ex1_9
          refine lv_iinc (v := x1_9) (lv' := [(1, .int x1_9), (0, .ref (xad G (2 + 6 * q)))]) hx hb dX1_refresh_46 hl (k := 1) rfl (by rw [ex1_9]; rfl) (by decide) rfl (fun ls hl => ?_)
          refine lv_goto (tgt := 10) hx hb dX1_refresh_49 (by decide) ?_
          exact ih x1_9 A_5 L_6 _ _ _ hw (lv_sub hl [1, 0] rfl) h
        · have h := h.2 c_8
          refine lv_aload_n hx hb dX1_refresh_41 rfl (lv_at hl 0 rfl) ?_
          refine lv_iload_n hx hb dX1_refresh_42 rfl (lv_at hl 1 rfl) ?_
          refine x_callv hG hw (va_runV (As := [.int x1]) (rest := []) ⟨hx, hb, hml, hown, hts⟩ (c_X1_make (l := l) (G := G) hq h) (cwV 1 hts gX1_refresh_X1_make rfl rfl rfl (by decide +kernel) ⟨Nat.le_of_ble_eq_true rfl, Nat.le_of_ble_eq_true rfl⟩) (x_preV hG hw (xOh hq) rfl) rfl rfl hl.1 rfl (lv_room (Nat.le_of_ble_eq_true rfl)) dX1_refresh_43 ⟨Nat.le_of_ble_eq_true rfl, Nat.le_of_ble_eq_true rfl⟩) (fun A_10 L_11 H locs hw h => ?_)
          obtain ⟨x1_12, ex1_12⟩ : ∃ y : Int32, y = x1 + (1 : Int32) := ⟨_, rfl⟩
          have h := h x1_12 ex1_12
          refine lv_iinc (v := x1_12) (lv' := [(1, .int x1_12), (0, .ref (xad G (2 + 6 * q)))]) hx hb dX1_refresh_46 hl (k := 1) rfl (by rw [ex1_12]; rfl) (by decide) rfl (fun ls hl => ?_)
          refine lv_goto (tgt := 10) hx hb dX1_refresh_49 (by decide) ?_
          exact ih x1_12 A_10 L_11 _ _ _ hw (lv_sub hl [1, 0] rfl) h
set_option maxHeartbeats 4000000 in
set_option maxRecDepth 100000 in
theorem t_X1_refresh_0 (C0 : xC p s m args meth c G cX1_refresh none wsX1_refresh RX1 2) {q : Nat} (hq : q < 2) {post : xM → xL → Prop} {A : xM} {L : xL} {H : Heap} {locs : List Loc} {ls : Array Slot} (hw : xW G s.heap A L H locs) (hl : lv_has ls 2 [(0, .ref (xad G (2 + 6 * q)))]) (h : v_X1_refresh q A L post) : W p l e rX1_refresh s m args below meth c H locs 0 0 (MQ below (xQv G post) args s 0 0 (xAf G)) (F0 m 0 ls []) := by
  obtain ⟨hx, hb, hr, hts, hown, hml, hlocks, hG⟩ := id C0
  unfold v_X1_refresh at h
  refine lv_aload_n hx hb dX1_refresh_0 rfl (lv_at hl 0 rfl) ?_
  refine x_get (C := RX1) (T := TX1) (N := 8) hx hb hts inX1_refresh_X1 hown hG hw (xOh hq) rfl 7 (by decide) (hts (.fieldLink RX1 15 "SixNumbers$Heap" "changed" "I") (List.mem_of_getElem? (i := 1) rfl)) (fun _ h9 => h9) (v := .int (A (2 + 6 * q) 7)) (xf_v7 hq) dX1_refresh_1 ?_
  refine lv_if_ne (tgt := 8) hx hb dX1_refresh_4 (by decide) (fun c_1 => ?_) (fun c_1 => ?_)
  · have h := h.1 c_1
    refine lv_iconst (v := 1) hx hb dX1_refresh_8 (by decide) ?_
    refine lv_istore_n (lv' := [(1, .int (1 : Int32)), (0, .ref (xad G (2 + 6 * q)))]) hx hb dX1_refresh_9 rfl hl (by decide) rfl (fun ls hl => ?_)
    obtain ⟨n9, h⟩ := h
    exact t_X1_refresh_10 C0 hq n9 (1 : Int32) A L _ _ _ hw (lv_sub hl [1, 0] rfl) h
  · have h := h.2 c_1
    exact x_vret hx hb hr hlocks hG hw h dX1_refresh_7
theorem c_X1_refresh {l : Launch} {G : xGt} {q : Nat} (hq : q < 2) {A : xM} {L : xL} {post : xM → xL → Prop} (h : v_X1_refresh q A L post) : Met l yX1_refresh wsX1_refresh rX1_refresh (va_Pc [.ref (xad G (2 + 6 * q))] (xPre G A L)) (xQv G post) 0 0 (xAf G) :=
  x_met RX1 rfl (by decide) rfl (Nat.le_of_ble_eq_true rfl) (fun p e s m below meth c ls C0 hw hl => t_X1_refresh_0 C0 hq hw hl h)
end MECH
abbrev rX1_countOfAllSets : Room := { frames := 1, cells := 0, slots := 0, locals := 22 }
theorem inX1_countOfAllSets_X1 : ∀ w ∈ wsX10, w ∈ wsX1_countOfAllSets := fun w h => List.mem_cons_of_mem _ (List.mem_append_right _ h)
def v_X1_countOfAllSets_5 (q : Nat) (x1 : Int32) (A : xM) (L : xL) (post : Int64 → Prop) : Nat → Int64 → Int32 → Prop
  | 0, _, _ => False
  | n + 1, y2, x4 => ((nI (64 - 48 * q)) ≤ x4 → (post y2)) ∧ (¬ (nI (64 - 48 * q)) ≤ x4 → (v_X1_countOf q x4 x1 A L (fun (r_2 : Int64) => (∀ y2_3 : Int64, y2_3 = (y2 + r_2) → (∀ x4_4 : Int32, x4_4 = x4 + (1 : Int32) → (v_X1_countOfAllSets_5 q x1 A L post n y2_3 x4_4))))))
def v_X1_countOfAllSets (q : Nat) (x1 : Int32) (A : xM) (L : xL) (post : Int64 → Prop) : Prop := ∃ k9 : Nat, v_X1_countOfAllSets_5 q x1 A L post k9 (0 : Int64) (1 : Int32)
section MECH
variable {p : Program} {l : Launch} {e : Env} {s : State} {m : MethodId} {args : Array Value} {below : List Frame} {meth : Method} {c : Code} {G : xGt}
set_option maxHeartbeats 4000000 in
set_option maxRecDepth 100000 in
theorem t_X1_countOfAllSets_5 (C0 : xC p s m args meth c G cX1_countOfAllSets (some .long) wsX1_countOfAllSets RX1 5) {q : Nat} (hq : q < 2) {post : Int64 → Prop} {x1 : Int32} {A : xM} {L : xL} : ∀ (n : Nat) (y2 : Int64) (x4 : Int32) (H : Heap) (locs : List Loc) (ls : Array Slot), xW G s.heap A L H locs → lv_has ls 5 [(0, .ref (xad G (2 + 6 * q))), (1, .int x1), (2, .long y2), (4, .int x4)] → v_X1_countOfAllSets_5 q x1 A L post n y2 x4 → W p l e rX1_countOfAllSets s m args below meth c H locs 0 0 (MQ below (xQl G (xpl A L post)) args s 0 0 (xAf G)) (F0 m 5 ls []) := by
  obtain ⟨hx, hb, hr, hts, hown, hml, hlocks, hG⟩ := id C0
  intro n
  induction n with
  | zero => intro y2 x4 H locs ls hw hl h; exact (show False from h).elim
  | succ n ih =>
    intro y2 x4 H locs ls hw hl h
    unfold v_X1_countOfAllSets_5 at h
    refine lv_iload hx hb dX1_countOfAllSets_5 (lv_at hl 3 rfl) ?_
    refine lv_aload_n hx hb dX1_countOfAllSets_7 rfl (lv_at hl 0 rfl) ?_
    refine x_get (C := RX1) (T := TX1) (N := 8) hx hb hts inX1_countOfAllSets_X1 hown hG hw (xOh hq) rfl 2 (by decide) (hts (.fieldLink RX1 28 "SixNumbers$Heap" "counts" "[[J") (List.mem_of_getElem? (i := 1) rfl)) (fun _ h9 => h9) (v := .ref (xad G (4 + 6 * q))) (xf_h2 hq) dX1_countOfAllSets_8 ?_
    refine x_alenR hx hb hG hw (xhC hq) .long rfl dX1_countOfAllSets_11 ?_
    refine lv_icmp_ge (tgt := 31) hx hb dX1_countOfAllSets_12 (by decide) (fun c_1 => ?_) (fun c_1 => ?_)
    · have h := h.1 c_1
      refine lv_lload_n hx hb dX1_countOfAllSets_31 rfl (lv_at hl 2 rfl) ?_
      exact x_lret hx hb hr hlocks hG hw ⟨h, rfl, rfl⟩ dX1_countOfAllSets_32
    · have h := h.2 c_1
      refine lv_lload_n hx hb dX1_countOfAllSets_15 rfl (lv_at hl 2 rfl) ?_
      refine lv_aload_n hx hb dX1_countOfAllSets_16 rfl (lv_at hl 0 rfl) ?_
      refine lv_iload hx hb dX1_countOfAllSets_17 (lv_at hl 3 rfl) ?_
      refine lv_iload_n hx hb dX1_countOfAllSets_19 rfl (lv_at hl 1 rfl) ?_
      refine x_calll hG hw (va_runV (As := [.int x4, .int x1]) (rest := [.long y2]) ⟨hx, hb, hml, hown, hts⟩ (c_X1_countOf (l := l) (G := G) hq h) (cwV 2 hts gX1_countOfAllSets_X1_countOf rfl rfl rfl (by decide +kernel) ⟨Nat.le_of_ble_eq_true rfl, Nat.le_of_ble_eq_true rfl⟩) (x_preV hG hw (xOh hq) rfl) rfl rfl hl.1 rfl (lv_room (Nat.le_of_ble_eq_true rfl)) dX1_countOfAllSets_20 ⟨Nat.le_of_ble_eq_true rfl, Nat.le_of_ble_eq_true rfl⟩) (fun r_2 A9 L9 H locs hw h => ?_)
      rw [h.2.1, h.2.2] at hw
      have h := h.1
      refine lv_ladd hx hb dX1_countOfAllSets_23 ?_
      refine lv_topl (fun y2_3 ey2_3 => ?_)
      have h := h y2_3 ey2_3
      refine lv_lstore_n (lv' := [(2, .long y2_3), (0, .ref (xad G (2 + 6 * q))), (1, .int x1), (4, .int x4)]) hx hb dX1_countOfAllSets_24 rfl hl (by decide) rfl (fun ls hl => ?_)
      obtain ⟨x4_4, ex4_4⟩ : ∃ y : Int32, y = x4 + (1 : Int32) := ⟨_, rfl⟩
      have h := h x4_4 ex4_4
      refine lv_iinc (v := x4_4) (lv' := [(4, .int x4_4), (2, .long y2_3), (0, .ref (xad G (2 + 6 * q))), (1, .int x1)]) hx hb dX1_countOfAllSets_25 hl (k := 3) rfl (by rw [ex4_4]; rfl) (by decide) rfl (fun ls hl => ?_)
      refine lv_goto (tgt := 5) hx hb dX1_countOfAllSets_28 (by decide) ?_
      exact ih y2_3 x4_4 _ _ _ hw (lv_sub hl [2, 3, 1, 0] rfl) h
set_option maxHeartbeats 4000000 in
set_option maxRecDepth 100000 in
theorem t_X1_countOfAllSets_0 (C0 : xC p s m args meth c G cX1_countOfAllSets (some .long) wsX1_countOfAllSets RX1 5) {q : Nat} (hq : q < 2) {post : Int64 → Prop} {x1 : Int32} {A : xM} {L : xL} {H : Heap} {locs : List Loc} {ls : Array Slot} (hw : xW G s.heap A L H locs) (hl : lv_has ls 5 [(0, .ref (xad G (2 + 6 * q))), (1, .int x1)]) (h : v_X1_countOfAllSets q x1 A L post) : W p l e rX1_countOfAllSets s m args below meth c H locs 0 0 (MQ below (xQl G (xpl A L post)) args s 0 0 (xAf G)) (F0 m 0 ls []) := by
  obtain ⟨hx, hb, hr, hts, hown, hml, hlocks, hG⟩ := id C0
  unfold v_X1_countOfAllSets at h
  refine lv_lconst (v := 0) hx hb dX1_countOfAllSets_0 (by decide) ?_
  refine lv_lstore_n (lv' := [(2, .long (0 : Int64)), (0, .ref (xad G (2 + 6 * q))), (1, .int x1)]) hx hb dX1_countOfAllSets_1 rfl hl (by decide) rfl (fun ls hl => ?_)
  refine lv_iconst (v := 1) hx hb dX1_countOfAllSets_2 (by decide) ?_
  refine lv_istore (lv' := [(4, .int (1 : Int32)), (2, .long (0 : Int64)), (0, .ref (xad G (2 + 6 * q))), (1, .int x1)]) hx hb dX1_countOfAllSets_3 hl (by decide) rfl (fun ls hl => ?_)
  obtain ⟨n9, h⟩ := h
  exact t_X1_countOfAllSets_5 C0 hq n9 (0 : Int64) (1 : Int32) _ _ _ hw (lv_sub hl [2, 3, 1, 0] rfl) h
theorem c_X1_countOfAllSets {l : Launch} {G : xGt} {q : Nat} (hq : q < 2) {x1 : Int32} {A : xM} {L : xL} {post : Int64 → Prop} (h : v_X1_countOfAllSets q x1 A L post) : Met l yX1_countOfAllSets wsX1_countOfAllSets rX1_countOfAllSets (va_Pc [.ref (xad G (2 + 6 * q)), .int x1] (xPre G A L)) (xQl G (xpl A L post)) 0 0 (xAf G) :=
  x_met RX1 rfl (by decide) rfl (Nat.le_of_ble_eq_true rfl) (fun p e s m below meth c ls C0 hw hl => t_X1_countOfAllSets_0 C0 hq hw hl h)
end MECH
abbrev rX1_has : Room := { frames := 1, cells := 0, slots := 0, locals := 22 }
def v_X1_has (q : Nat) (x1 : Int32) (x2 : Int32) (A : xM) (L : xL) (post : Int32 → Prop) : Prop := (¬ x1 = 0 → (v_X1_countOf q x1 x2 A L (fun (r_2 : Int64) => (((lg_cmp r_2 (0 : Int64)) ≤ 0 → (post (0 : Int32))) ∧ (¬ (lg_cmp r_2 (0 : Int64)) ≤ 0 → (post (1 : Int32))))))) ∧ (x1 = 0 → (v_X1_reaches q x2 A L (fun (r_4 : Int32) => ((r_4 = 0 ∨ r_4 = 1) ∧ post r_4))))
section MECH
variable {p : Program} {l : Launch} {e : Env} {s : State} {m : MethodId} {args : Array Value} {below : List Frame} {meth : Method} {c : Code} {G : xGt}
set_option maxHeartbeats 4000000 in
set_option maxRecDepth 100000 in
theorem t_X1_has_0 (C0 : xC p s m args meth c G cX1_has (some .boolean) wsX1_has RX1 3) {q : Nat} (hq : q < 2) {post : Int32 → Prop} {x1 : Int32} {x2 : Int32} {A : xM} {L : xL} {H : Heap} {locs : List Loc} {ls : Array Slot} (hw : xW G s.heap A L H locs) (hl : lv_has ls 3 [(0, .ref (xad G (2 + 6 * q))), (1, .int x1), (2, .int x2)]) (h : v_X1_has q x1 x2 A L post) : W p l e rX1_has s m args below meth c H locs 0 0 (MQ below (xQi G (xpi A L post)) args s 0 0 (xAf G)) (F0 m 0 ls []) := by
  obtain ⟨hx, hb, hr, hts, hown, hml, hlocks, hG⟩ := id C0
  unfold v_X1_has at h
  refine lv_iload_n hx hb dX1_has_0 rfl (lv_at hl 1 rfl) ?_
  refine lv_if_ne (tgt := 12) hx hb dX1_has_1 (by decide) (fun c_1 => ?_) (fun c_1 => ?_)
  · have h := h.1 c_1
    refine lv_aload_n hx hb dX1_has_12 rfl (lv_at hl 0 rfl) ?_
    refine lv_iload_n hx hb dX1_has_13 rfl (lv_at hl 1 rfl) ?_
    refine lv_iload_n hx hb dX1_has_14 rfl (lv_at hl 2 rfl) ?_
    refine x_calll hG hw (va_runV (As := [.int x1, .int x2]) (rest := []) ⟨hx, hb, hml, hown, hts⟩ (c_X1_countOf (l := l) (G := G) hq h) (cwV 2 hts gX1_has_X1_countOf rfl rfl rfl (by decide +kernel) ⟨Nat.le_of_ble_eq_true rfl, Nat.le_of_ble_eq_true rfl⟩) (x_preV hG hw (xOh hq) rfl) rfl rfl hl.1 rfl (lv_room (Nat.le_of_ble_eq_true rfl)) dX1_has_15 ⟨Nat.le_of_ble_eq_true rfl, Nat.le_of_ble_eq_true rfl⟩) (fun r_2 A9 L9 H locs hw h => ?_)
    rw [h.2.1, h.2.2] at hw
    have h := h.1
    refine lv_lconst (v := 0) hx hb dX1_has_18 (by decide) ?_
    refine W.lcmp hx hb dX1_has_19 ?_
    refine lv_if_le (tgt := 27) hx hb dX1_has_20 (by decide) (fun c_3 => ?_) (fun c_3 => ?_)
    · have h := h.1 c_3
      refine lv_iconst (v := 0) hx hb dX1_has_27 (by decide) ?_
      exact x_zret hx hb hr hlocks hG hw (by decide) ⟨h, rfl, rfl⟩ dX1_has_28
    · have h := h.2 c_3
      refine lv_iconst (v := 1) hx hb dX1_has_23 (by decide) ?_
      refine lv_goto (tgt := 28) hx hb dX1_has_24 (by decide) ?_
      exact x_zret hx hb hr hlocks hG hw (by decide) ⟨h, rfl, rfl⟩ dX1_has_28
  · have h := h.2 c_1
    refine lv_aload_n hx hb dX1_has_4 rfl (lv_at hl 0 rfl) ?_
    refine lv_iload_n hx hb dX1_has_5 rfl (lv_at hl 2 rfl) ?_
    refine x_calli hG hw (va_runV (As := [.int x2]) (rest := []) ⟨hx, hb, hml, hown, hts⟩ (c_X1_reaches (l := l) (G := G) hq h) (cwV 1 hts gX1_has_X1_reaches rfl rfl rfl (by decide +kernel) ⟨Nat.le_of_ble_eq_true rfl, Nat.le_of_ble_eq_true rfl⟩) (x_preV hG hw (xOh hq) rfl) rfl rfl hl.1 rfl (lv_room (Nat.le_of_ble_eq_true rfl)) dX1_has_6 ⟨Nat.le_of_ble_eq_true rfl, Nat.le_of_ble_eq_true rfl⟩) (fun r_4 A9 L9 H locs hw h => ?_)
    rw [h.2.1, h.2.2] at hw
    have h := h.1
    refine lv_goto (tgt := 28) hx hb dX1_has_9 (by decide) ?_
    exact x_zret hx hb hr hlocks hG hw h.1 ⟨h.2, rfl, rfl⟩ dX1_has_28
theorem c_X1_has {l : Launch} {G : xGt} {q : Nat} (hq : q < 2) {x1 : Int32} {x2 : Int32} {A : xM} {L : xL} {post : Int32 → Prop} (h : v_X1_has q x1 x2 A L post) : Met l yX1_has wsX1_has rX1_has (va_Pc [.ref (xad G (2 + 6 * q)), .int x1, .int x2] (xPre G A L)) (xQi G (xpi A L post)) 0 0 (xAf G) :=
  x_met RX1 rfl (by decide) rfl (Nat.le_of_ble_eq_true rfl) (fun p e s m below meth c ls C0 hw hl => t_X1_has_0 C0 hq hw hl h)
end MECH
abbrev rX1_numbersOf : Room := { frames := 2, cells := 0, slots := 0, locals := 44 }
def v_X1_numbersOf_4 (q : Nat) (x1 : Int32) (A : xM) (L : xL) (post : Int32 → Prop) : Nat → Int32 → Int32 → Prop
  | 0, _, _ => False
  | n + 1, x2, x3 => ((3000 : Int32) < x3 → (post x2)) ∧ (¬ (3000 : Int32) < x3 → (v_X1_has q x1 x3 A L (fun (r_2 : Int32) => ((r_2 = 0 → (∀ x3_4 : Int32, x3_4 = x3 + (1 : Int32) → (v_X1_numbersOf_4 q x1 A L post n x2 x3_4))) ∧ (¬ r_2 = 0 → (∀ x2_5 : Int32, x2_5 = x2 + (1 : Int32) → (∀ x3_6 : Int32, x3_6 = x3 + (1 : Int32) → (v_X1_numbersOf_4 q x1 A L post n x2_5 x3_6))))))))
def v_X1_numbersOf (q : Nat) (x1 : Int32) (A : xM) (L : xL) (post : Int32 → Prop) : Prop := ∃ k9 : Nat, v_X1_numbersOf_4 q x1 A L post k9 (0 : Int32) (1 : Int32)
section MECH
variable {p : Program} {l : Launch} {e : Env} {s : State} {m : MethodId} {args : Array Value} {below : List Frame} {meth : Method} {c : Code} {G : xGt}
set_option maxHeartbeats 4000000 in
set_option maxRecDepth 100000 in
theorem t_X1_numbersOf_4 (C0 : xC p s m args meth c G cX1_numbersOf (some .int) wsX1_numbersOf RX1 4) {q : Nat} (hq : q < 2) {post : Int32 → Prop} {x1 : Int32} {A : xM} {L : xL} : ∀ (n : Nat) (x2 : Int32) (x3 : Int32) (H : Heap) (locs : List Loc) (ls : Array Slot), xW G s.heap A L H locs → lv_has ls 4 [(0, .ref (xad G (2 + 6 * q))), (1, .int x1), (2, .int x2), (3, .int x3)] → v_X1_numbersOf_4 q x1 A L post n x2 x3 → W p l e rX1_numbersOf s m args below meth c H locs 0 0 (MQ below (xQi G (xpi A L post)) args s 0 0 (xAf G)) (F0 m 4 ls []) := by
  obtain ⟨hx, hb, hr, hts, hown, hml, hlocks, hG⟩ := id C0
  intro n
  induction n with
  | zero => intro x2 x3 H locs ls hw hl h; exact (show False from h).elim
  | succ n ih =>
    intro x2 x3 H locs ls hw hl h
    unfold v_X1_numbersOf_4 at h
    refine lv_iload_n hx hb dX1_numbersOf_4 rfl (lv_at hl 3 rfl) ?_
    refine lv_sipush (v := 3000) hx hb dX1_numbersOf_5 (by decide) ?_
    refine lv_icmp_gt (tgt := 29) hx hb dX1_numbersOf_8 (by decide) (fun c_1 => ?_) (fun c_1 => ?_)
    · have h := h.1 c_1
      refine lv_iload_n hx hb dX1_numbersOf_29 rfl (lv_at hl 2 rfl) ?_
      exact x_iret hx hb hr hlocks hG hw ⟨h, rfl, rfl⟩ dX1_numbersOf_30
    · have h := h.2 c_1
      refine lv_aload_n hx hb dX1_numbersOf_11 rfl (lv_at hl 0 rfl) ?_
      refine lv_iload_n hx hb dX1_numbersOf_12 rfl (lv_at hl 1 rfl) ?_
      refine lv_iload_n hx hb dX1_numbersOf_13 rfl (lv_at hl 3 rfl) ?_
      refine x_calli hG hw (va_runV (As := [.int x1, .int x3]) (rest := []) ⟨hx, hb, hml, hown, hts⟩ (c_X1_has (l := l) (G := G) hq h) (cwV 2 hts gX1_numbersOf_X1_has rfl rfl rfl (by decide +kernel) ⟨Nat.le_of_ble_eq_true rfl, Nat.le_of_ble_eq_true rfl⟩) (x_preV hG hw (xOh hq) rfl) rfl rfl hl.1 rfl (lv_room (Nat.le_of_ble_eq_true rfl)) dX1_numbersOf_14 ⟨Nat.le_of_ble_eq_true rfl, Nat.le_of_ble_eq_true rfl⟩) (fun r_2 A9 L9 H locs hw h => ?_)
      rw [h.2.1, h.2.2] at hw
      have h := h.1
      refine lv_if_eq (tgt := 23) hx hb dX1_numbersOf_17 (by decide) (fun c_3 => ?_) (fun c_3 => ?_)
      · have h := h.1 c_3
        obtain ⟨x3_4, ex3_4⟩ : ∃ y : Int32, y = x3 + (1 : Int32) := ⟨_, rfl⟩
        have h := h x3_4 ex3_4
        refine lv_iinc (v := x3_4) (lv' := [(3, .int x3_4), (0, .ref (xad G (2 + 6 * q))), (1, .int x1), (2, .int x2)]) hx hb dX1_numbersOf_23 hl (k := 3) rfl (by rw [ex3_4]; rfl) (by decide) rfl (fun ls hl => ?_)
        refine lv_goto (tgt := 4) hx hb dX1_numbersOf_26 (by decide) ?_
        exact ih x2 x3_4 _ _ _ hw (lv_sub hl [1, 2, 3, 0] rfl) h
      · have h := h.2 c_3
        obtain ⟨x2_5, ex2_5⟩ : ∃ y : Int32, y = x2 + (1 : Int32) := ⟨_, rfl⟩
        have h := h x2_5 ex2_5
        refine lv_iinc (v := x2_5) (lv' := [(2, .int x2_5), (0, .ref (xad G (2 + 6 * q))), (1, .int x1), (3, .int x3)]) hx hb dX1_numbersOf_20 hl (k := 2) rfl (by rw [ex2_5]; rfl) (by decide) rfl (fun ls hl => ?_)
        obtain ⟨x3_6, ex3_6⟩ : ∃ y : Int32, y = x3 + (1 : Int32) := ⟨_, rfl⟩
        have h := h x3_6 ex3_6
        refine lv_iinc (v := x3_6) (lv' := [(3, .int x3_6), (2, .int x2_5), (0, .ref (xad G (2 + 6 * q))), (1, .int x1)]) hx hb dX1_numbersOf_23 hl (k := 3) rfl (by rw [ex3_6]; rfl) (by decide) rfl (fun ls hl => ?_)
        refine lv_goto (tgt := 4) hx hb dX1_numbersOf_26 (by decide) ?_
        exact ih x2_5 x3_6 _ _ _ hw (lv_sub hl [2, 3, 1, 0] rfl) h
set_option maxHeartbeats 4000000 in
set_option maxRecDepth 100000 in
theorem t_X1_numbersOf_0 (C0 : xC p s m args meth c G cX1_numbersOf (some .int) wsX1_numbersOf RX1 4) {q : Nat} (hq : q < 2) {post : Int32 → Prop} {x1 : Int32} {A : xM} {L : xL} {H : Heap} {locs : List Loc} {ls : Array Slot} (hw : xW G s.heap A L H locs) (hl : lv_has ls 4 [(0, .ref (xad G (2 + 6 * q))), (1, .int x1)]) (h : v_X1_numbersOf q x1 A L post) : W p l e rX1_numbersOf s m args below meth c H locs 0 0 (MQ below (xQi G (xpi A L post)) args s 0 0 (xAf G)) (F0 m 0 ls []) := by
  obtain ⟨hx, hb, hr, hts, hown, hml, hlocks, hG⟩ := id C0
  unfold v_X1_numbersOf at h
  refine lv_iconst (v := 0) hx hb dX1_numbersOf_0 (by decide) ?_
  refine lv_istore_n (lv' := [(2, .int (0 : Int32)), (0, .ref (xad G (2 + 6 * q))), (1, .int x1)]) hx hb dX1_numbersOf_1 rfl hl (by decide) rfl (fun ls hl => ?_)
  refine lv_iconst (v := 1) hx hb dX1_numbersOf_2 (by decide) ?_
  refine lv_istore_n (lv' := [(3, .int (1 : Int32)), (2, .int (0 : Int32)), (0, .ref (xad G (2 + 6 * q))), (1, .int x1)]) hx hb dX1_numbersOf_3 rfl hl (by decide) rfl (fun ls hl => ?_)
  obtain ⟨n9, h⟩ := h
  exact t_X1_numbersOf_4 C0 hq n9 (0 : Int32) (1 : Int32) _ _ _ hw (lv_sub hl [2, 3, 1, 0] rfl) h
theorem c_X1_numbersOf {l : Launch} {G : xGt} {q : Nat} (hq : q < 2) {x1 : Int32} {A : xM} {L : xL} {post : Int32 → Prop} (h : v_X1_numbersOf q x1 A L post) : Met l yX1_numbersOf wsX1_numbersOf rX1_numbersOf (va_Pc [.ref (xad G (2 + 6 * q)), .int x1] (xPre G A L)) (xQi G (xpi A L post)) 0 0 (xAf G) :=
  x_met RX1 rfl (by decide) rfl (Nat.le_of_ble_eq_true rfl) (fun p e s m below meth c ls C0 hw hl => t_X1_numbersOf_0 C0 hq hw hl h)
end MECH
abbrev rX1_numberAt : Room := { frames := 2, cells := 0, slots := 0, locals := 44 }
def v_X1_numberAt_5 (q : Nat) (x1 : Int32) (x2 : Int32) (A : xM) (L : xL) (post : Int32 → Prop) : Nat → Int32 → Int32 → Prop
  | 0, _, _ => False
  | n + 1, x3, x4 => ((3000 : Int32) < x4 → (post (-1 : Int32))) ∧ (¬ (3000 : Int32) < x4 → (v_X1_has q x1 x4 A L (fun (r_2 : Int32) => ((r_2 = 0 → (∀ x4_4 : Int32, x4_4 = x4 + (1 : Int32) → (v_X1_numberAt_5 q x1 x2 A L post n x3 x4_4))) ∧ (¬ r_2 = 0 → ((¬ x3 = x2 → (∀ x3_6 : Int32, x3_6 = x3 + (1 : Int32) → (∀ x4_7 : Int32, x4_7 = x4 + (1 : Int32) → (v_X1_numberAt_5 q x1 x2 A L post n x3_6 x4_7)))) ∧ (x3 = x2 → (post x4))))))))
def v_X1_numberAt (q : Nat) (x1 : Int32) (x2 : Int32) (A : xM) (L : xL) (post : Int32 → Prop) : Prop := ∃ k9 : Nat, v_X1_numberAt_5 q x1 x2 A L post k9 (0 : Int32) (1 : Int32)
section MECH
variable {p : Program} {l : Launch} {e : Env} {s : State} {m : MethodId} {args : Array Value} {below : List Frame} {meth : Method} {c : Code} {G : xGt}
set_option maxHeartbeats 4000000 in
set_option maxRecDepth 100000 in
theorem t_X1_numberAt_5 (C0 : xC p s m args meth c G cX1_numberAt (some .int) wsX1_numberAt RX1 5) {q : Nat} (hq : q < 2) {post : Int32 → Prop} {x1 : Int32} {x2 : Int32} {A : xM} {L : xL} : ∀ (n : Nat) (x3 : Int32) (x4 : Int32) (H : Heap) (locs : List Loc) (ls : Array Slot), xW G s.heap A L H locs → lv_has ls 5 [(0, .ref (xad G (2 + 6 * q))), (1, .int x1), (2, .int x2), (3, .int x3), (4, .int x4)] → v_X1_numberAt_5 q x1 x2 A L post n x3 x4 → W p l e rX1_numberAt s m args below meth c H locs 0 0 (MQ below (xQi G (xpi A L post)) args s 0 0 (xAf G)) (F0 m 5 ls []) := by
  obtain ⟨hx, hb, hr, hts, hown, hml, hlocks, hG⟩ := id C0
  intro n
  induction n with
  | zero => intro x3 x4 H locs ls hw hl h; exact (show False from h).elim
  | succ n ih =>
    intro x3 x4 H locs ls hw hl h
    unfold v_X1_numberAt_5 at h
    refine lv_iload hx hb dX1_numberAt_5 (lv_at hl 4 rfl) ?_
    refine lv_sipush (v := 3000) hx hb dX1_numberAt_7 (by decide) ?_
    refine lv_icmp_gt (tgt := 40) hx hb dX1_numberAt_10 (by decide) (fun c_1 => ?_) (fun c_1 => ?_)
    · have h := h.1 c_1
      refine lv_iconst (v := (-1)) hx hb dX1_numberAt_40 (by decide) ?_
      exact x_iret hx hb hr hlocks hG hw ⟨h, rfl, rfl⟩ dX1_numberAt_41
    · have h := h.2 c_1
      refine lv_aload_n hx hb dX1_numberAt_13 rfl (lv_at hl 0 rfl) ?_
      refine lv_iload_n hx hb dX1_numberAt_14 rfl (lv_at hl 1 rfl) ?_
      refine lv_iload hx hb dX1_numberAt_15 (lv_at hl 4 rfl) ?_
      refine x_calli hG hw (va_runV (As := [.int x1, .int x4]) (rest := []) ⟨hx, hb, hml, hown, hts⟩ (c_X1_has (l := l) (G := G) hq h) (cwV 2 hts gX1_numberAt_X1_has rfl rfl rfl (by decide +kernel) ⟨Nat.le_of_ble_eq_true rfl, Nat.le_of_ble_eq_true rfl⟩) (x_preV hG hw (xOh hq) rfl) rfl rfl hl.1 rfl (lv_room (Nat.le_of_ble_eq_true rfl)) dX1_numberAt_17 ⟨Nat.le_of_ble_eq_true rfl, Nat.le_of_ble_eq_true rfl⟩) (fun r_2 A9 L9 H locs hw h => ?_)
      rw [h.2.1, h.2.2] at hw
      have h := h.1
      refine lv_if_eq (tgt := 34) hx hb dX1_numberAt_20 (by decide) (fun c_3 => ?_) (fun c_3 => ?_)
      · have h := h.1 c_3
        obtain ⟨x4_4, ex4_4⟩ : ∃ y : Int32, y = x4 + (1 : Int32) := ⟨_, rfl⟩
        have h := h x4_4 ex4_4
        refine lv_iinc (v := x4_4) (lv' := [(4, .int x4_4), (0, .ref (xad G (2 + 6 * q))), (1, .int x1), (2, .int x2), (3, .int x3)]) hx hb dX1_numberAt_34 hl (k := 4) rfl (by rw [ex4_4]; rfl) (by decide) rfl (fun ls hl => ?_)
        refine lv_goto (tgt := 5) hx hb dX1_numberAt_37 (by decide) ?_
        exact ih x3 x4_4 _ _ _ hw (lv_sub hl [1, 2, 3, 4, 0] rfl) h
      · have h := h.2 c_3
        refine lv_iload_n hx hb dX1_numberAt_23 rfl (lv_at hl 3 rfl) ?_
        refine lv_iload_n hx hb dX1_numberAt_24 rfl (lv_at hl 2 rfl) ?_
        refine lv_icmp_ne (tgt := 31) hx hb dX1_numberAt_25 (by decide) (fun c_5 => ?_) (fun c_5 => ?_)
        · have h := h.1 c_5
          obtain ⟨x3_6, ex3_6⟩ : ∃ y : Int32, y = x3 + (1 : Int32) := ⟨_, rfl⟩
          have h := h x3_6 ex3_6
          refine lv_iinc (v := x3_6) (lv' := [(3, .int x3_6), (0, .ref (xad G (2 + 6 * q))), (1, .int x1), (2, .int x2), (4, .int x4)]) hx hb dX1_numberAt_31 hl (k := 3) rfl (by rw [ex3_6]; rfl) (by decide) rfl (fun ls hl => ?_)
          obtain ⟨x4_7, ex4_7⟩ : ∃ y : Int32, y = x4 + (1 : Int32) := ⟨_, rfl⟩
          have h := h x4_7 ex4_7
          refine lv_iinc (v := x4_7) (lv' := [(4, .int x4_7), (3, .int x3_6), (0, .ref (xad G (2 + 6 * q))), (1, .int x1), (2, .int x2)]) hx hb dX1_numberAt_34 hl (k := 4) rfl (by rw [ex4_7]; rfl) (by decide) rfl (fun ls hl => ?_)
          refine lv_goto (tgt := 5) hx hb dX1_numberAt_37 (by decide) ?_
          exact ih x3_6 x4_7 _ _ _ hw (lv_sub hl [2, 3, 4, 1, 0] rfl) h
        · have h := h.2 c_5
          refine lv_iload hx hb dX1_numberAt_28 (lv_at hl 4 rfl) ?_
          exact x_iret hx hb hr hlocks hG hw ⟨h, rfl, rfl⟩ dX1_numberAt_30
set_option maxHeartbeats 4000000 in
set_option maxRecDepth 100000 in
theorem t_X1_numberAt_0 (C0 : xC p s m args meth c G cX1_numberAt (some .int) wsX1_numberAt RX1 5) {q : Nat} (hq : q < 2) {post : Int32 → Prop} {x1 : Int32} {x2 : Int32} {A : xM} {L : xL} {H : Heap} {locs : List Loc} {ls : Array Slot} (hw : xW G s.heap A L H locs) (hl : lv_has ls 5 [(0, .ref (xad G (2 + 6 * q))), (1, .int x1), (2, .int x2)]) (h : v_X1_numberAt q x1 x2 A L post) : W p l e rX1_numberAt s m args below meth c H locs 0 0 (MQ below (xQi G (xpi A L post)) args s 0 0 (xAf G)) (F0 m 0 ls []) := by
  obtain ⟨hx, hb, hr, hts, hown, hml, hlocks, hG⟩ := id C0
  unfold v_X1_numberAt at h
  refine lv_iconst (v := 0) hx hb dX1_numberAt_0 (by decide) ?_
  refine lv_istore_n (lv' := [(3, .int (0 : Int32)), (0, .ref (xad G (2 + 6 * q))), (1, .int x1), (2, .int x2)]) hx hb dX1_numberAt_1 rfl hl (by decide) rfl (fun ls hl => ?_)
  refine lv_iconst (v := 1) hx hb dX1_numberAt_2 (by decide) ?_
  refine lv_istore (lv' := [(4, .int (1 : Int32)), (3, .int (0 : Int32)), (0, .ref (xad G (2 + 6 * q))), (1, .int x1), (2, .int x2)]) hx hb dX1_numberAt_3 hl (by decide) rfl (fun ls hl => ?_)
  obtain ⟨n9, h⟩ := h
  exact t_X1_numberAt_5 C0 hq n9 (0 : Int32) (1 : Int32) _ _ _ hw (lv_sub hl [2, 3, 4, 1, 0] rfl) h
theorem c_X1_numberAt {l : Launch} {G : xGt} {q : Nat} (hq : q < 2) {x1 : Int32} {x2 : Int32} {A : xM} {L : xL} {post : Int32 → Prop} (h : v_X1_numberAt q x1 x2 A L post) : Met l yX1_numberAt wsX1_numberAt rX1_numberAt (va_Pc [.ref (xad G (2 + 6 * q)), .int x1, .int x2] (xPre G A L)) (xQi G (xpi A L post)) 0 0 (xAf G) :=
  x_met RX1 rfl (by decide) rfl (Nat.le_of_ble_eq_true rfl) (fun p e s m below meth c ls C0 hw hl => t_X1_numberAt_0 C0 hq hw hl h)
end MECH
abbrev rX1_leastNotReached : Room := { frames := 1, cells := 0, slots := 0, locals := 21 }
def v_X1_leastNotReached_2 (q : Nat) (A : xM) (L : xL) (post : Int32 → Prop) : Nat → Int32 → Prop
  | 0, _ => False
  | n + 1, x1 => ((3000 : Int32) < x1 → (post (3001 : Int32))) ∧ (¬ (3000 : Int32) < x1 → (v_X1_reaches q x1 A L (fun (r_2 : Int32) => ((¬ r_2 = 0 → (∀ x1_4 : Int32, x1_4 = x1 + (1 : Int32) → (v_X1_leastNotReached_2 q A L post n x1_4))) ∧ (r_2 = 0 → (post x1))))))
def v_X1_leastNotReached (q : Nat) (A : xM) (L : xL) (post : Int32 → Prop) : Prop := ∃ k9 : Nat, v_X1_leastNotReached_2 q A L post k9 (1 : Int32)
section MECH
variable {p : Program} {l : Launch} {e : Env} {s : State} {m : MethodId} {args : Array Value} {below : List Frame} {meth : Method} {c : Code} {G : xGt}
set_option maxHeartbeats 4000000 in
set_option maxRecDepth 100000 in
theorem t_X1_leastNotReached_2 (C0 : xC p s m args meth c G cX1_leastNotReached (some .int) wsX1_leastNotReached RX1 2) {q : Nat} (hq : q < 2) {post : Int32 → Prop} {A : xM} {L : xL} : ∀ (n : Nat) (x1 : Int32) (H : Heap) (locs : List Loc) (ls : Array Slot), xW G s.heap A L H locs → lv_has ls 2 [(0, .ref (xad G (2 + 6 * q))), (1, .int x1)] → v_X1_leastNotReached_2 q A L post n x1 → W p l e rX1_leastNotReached s m args below meth c H locs 0 0 (MQ below (xQi G (xpi A L post)) args s 0 0 (xAf G)) (F0 m 2 ls []) := by
  obtain ⟨hx, hb, hr, hts, hown, hml, hlocks, hG⟩ := id C0
  intro n
  induction n with
  | zero => intro x1 H locs ls hw hl h; exact (show False from h).elim
  | succ n ih =>
    intro x1 H locs ls hw hl h
    unfold v_X1_leastNotReached_2 at h
    refine lv_iload_n hx hb dX1_leastNotReached_2 rfl (lv_at hl 1 rfl) ?_
    refine lv_sipush (v := 3000) hx hb dX1_leastNotReached_3 (by decide) ?_
    refine lv_icmp_gt (tgt := 25) hx hb dX1_leastNotReached_6 (by decide) (fun c_1 => ?_) (fun c_1 => ?_)
    · have h := h.1 c_1
      refine lv_sipush (v := 3001) hx hb dX1_leastNotReached_25 (by decide) ?_
      exact x_iret hx hb hr hlocks hG hw ⟨h, rfl, rfl⟩ dX1_leastNotReached_28
    · have h := h.2 c_1
      refine lv_aload_n hx hb dX1_leastNotReached_9 rfl (lv_at hl 0 rfl) ?_
      refine lv_iload_n hx hb dX1_leastNotReached_10 rfl (lv_at hl 1 rfl) ?_
      refine x_calli hG hw (va_runV (As := [.int x1]) (rest := []) ⟨hx, hb, hml, hown, hts⟩ (c_X1_reaches (l := l) (G := G) hq h) (cwV 1 hts gX1_leastNotReached_X1_reaches rfl rfl rfl (by decide +kernel) ⟨Nat.le_of_ble_eq_true rfl, Nat.le_of_ble_eq_true rfl⟩) (x_preV hG hw (xOh hq) rfl) rfl rfl hl.1 rfl (lv_room (Nat.le_of_ble_eq_true rfl)) dX1_leastNotReached_11 ⟨Nat.le_of_ble_eq_true rfl, Nat.le_of_ble_eq_true rfl⟩) (fun r_2 A9 L9 H locs hw h => ?_)
      rw [h.2.1, h.2.2] at hw
      have h := h.1
      refine lv_if_ne (tgt := 19) hx hb dX1_leastNotReached_14 (by decide) (fun c_3 => ?_) (fun c_3 => ?_)
      · have h := h.1 c_3
        obtain ⟨x1_4, ex1_4⟩ : ∃ y : Int32, y = x1 + (1 : Int32) := ⟨_, rfl⟩
        have h := h x1_4 ex1_4
        refine lv_iinc (v := x1_4) (lv' := [(1, .int x1_4), (0, .ref (xad G (2 + 6 * q)))]) hx hb dX1_leastNotReached_19 hl (k := 1) rfl (by rw [ex1_4]; rfl) (by decide) rfl (fun ls hl => ?_)
        refine lv_goto (tgt := 2) hx hb dX1_leastNotReached_22 (by decide) ?_
        exact ih x1_4 _ _ _ hw (lv_sub hl [1, 0] rfl) h
      · have h := h.2 c_3
        refine lv_iload_n hx hb dX1_leastNotReached_17 rfl (lv_at hl 1 rfl) ?_
        exact x_iret hx hb hr hlocks hG hw ⟨h, rfl, rfl⟩ dX1_leastNotReached_18
set_option maxHeartbeats 4000000 in
set_option maxRecDepth 100000 in
theorem t_X1_leastNotReached_0 (C0 : xC p s m args meth c G cX1_leastNotReached (some .int) wsX1_leastNotReached RX1 2) {q : Nat} (hq : q < 2) {post : Int32 → Prop} {A : xM} {L : xL} {H : Heap} {locs : List Loc} {ls : Array Slot} (hw : xW G s.heap A L H locs) (hl : lv_has ls 2 [(0, .ref (xad G (2 + 6 * q)))]) (h : v_X1_leastNotReached q A L post) : W p l e rX1_leastNotReached s m args below meth c H locs 0 0 (MQ below (xQi G (xpi A L post)) args s 0 0 (xAf G)) (F0 m 0 ls []) := by
  obtain ⟨hx, hb, hr, hts, hown, hml, hlocks, hG⟩ := id C0
  unfold v_X1_leastNotReached at h
  refine lv_iconst (v := 1) hx hb dX1_leastNotReached_0 (by decide) ?_
  refine lv_istore_n (lv' := [(1, .int (1 : Int32)), (0, .ref (xad G (2 + 6 * q)))]) hx hb dX1_leastNotReached_1 rfl hl (by decide) rfl (fun ls hl => ?_)
  obtain ⟨n9, h⟩ := h
  exact t_X1_leastNotReached_2 C0 hq n9 (1 : Int32) _ _ _ hw (lv_sub hl [1, 0] rfl) h
theorem c_X1_leastNotReached {l : Launch} {G : xGt} {q : Nat} (hq : q < 2) {A : xM} {L : xL} {post : Int32 → Prop} (h : v_X1_leastNotReached q A L post) : Met l yX1_leastNotReached wsX1_leastNotReached rX1_leastNotReached (va_Pc [.ref (xad G (2 + 6 * q))] (xPre G A L)) (xQi G (xpi A L post)) 0 0 (xAf G) :=
  x_met RX1 rfl (by decide) rfl (Nat.le_of_ble_eq_true rfl) (fun p e s m below meth c ls C0 hw hl => t_X1_leastNotReached_0 C0 hq hw hl h)
end MECH
abbrev rX1_firstSet : Room := { frames := 1, cells := 0, slots := 0, locals := 22 }
theorem inX1_firstSet_X1 : ∀ w ∈ wsX10, w ∈ wsX1_firstSet := fun w h => List.mem_cons_of_mem _ (List.mem_append_right _ h)
def v_X1_firstSet_8 (q : Nat) (x1 : Int32) (A : xM) (L : xL) (post : Int32 → Prop) : Nat → Int32 → Int32 → Int32 → Prop
  | 0, _, _, _ => False
  | n + 1, x2, x3, x4 => ((nI (64 - 48 * q)) ≤ x4 → (post x2)) ∧ (¬ (nI (64 - 48 * q)) ≤ x4 → (v_X1_countOf q x4 x1 A L (fun (r_2 : Int64) => (((lg_cmp r_2 (0 : Int64)) ≤ 0 → (∀ x4_4 : Int32, x4_4 = x4 + (1 : Int32) → (v_X1_firstSet_8 q x1 A L post n x2 x3 x4_4))) ∧ (¬ (lg_cmp r_2 (0 : Int64)) ≤ 0 → (v_J6_bitCount_0f7a4 x4 (fun (r_5 : Int32) => ((x3 ≤ r_5 → (∀ x4_7 : Int32, x4_7 = x4 + (1 : Int32) → (v_X1_firstSet_8 q x1 A L post n x2 x3 x4_7))) ∧ (¬ x3 ≤ r_5 → (v_J6_bitCount_0f7a4 x4 (fun (r_8 : Int32) => (∀ x4_9 : Int32, x4_9 = x4 + (1 : Int32) → (v_X1_firstSet_8 q x1 A L post n x4 r_8 x4_9)))))))))))))
def v_X1_firstSet (q : Nat) (x1 : Int32) (A : xM) (L : xL) (post : Int32 → Prop) : Prop := ∃ k9 : Nat, v_X1_firstSet_8 q x1 A L post k9 (-1 : Int32) (7 : Int32) (1 : Int32)
section MECH
variable {p : Program} {l : Launch} {e : Env} {s : State} {m : MethodId} {args : Array Value} {below : List Frame} {meth : Method} {c : Code} {G : xGt}
set_option maxHeartbeats 4000000 in
set_option maxRecDepth 100000 in
theorem t_X1_firstSet_8 (C0 : xC p s m args meth c G cX1_firstSet (some .int) wsX1_firstSet RX1 5) {q : Nat} (hq : q < 2) {post : Int32 → Prop} {x1 : Int32} {A : xM} {L : xL} : ∀ (n : Nat) (x2 : Int32) (x3 : Int32) (x4 : Int32) (H : Heap) (locs : List Loc) (ls : Array Slot), xW G s.heap A L H locs → lv_has ls 5 [(0, .ref (xad G (2 + 6 * q))), (1, .int x1), (2, .int x2), (3, .int x3), (4, .int x4)] → v_X1_firstSet_8 q x1 A L post n x2 x3 x4 → W p l e rX1_firstSet s m args below meth c H locs 0 0 (MQ below (xQi G (xpi A L post)) args s 0 0 (xAf G)) (F0 m 8 ls []) := by
  obtain ⟨hx, hb, hr, hts, hown, hml, hlocks, hG⟩ := id C0
  intro n
  induction n with
  | zero => intro x2 x3 x4 H locs ls hw hl h; exact (show False from h).elim
  | succ n ih =>
    intro x2 x3 x4 H locs ls hw hl h
    unfold v_X1_firstSet_8 at h
    refine lv_iload hx hb dX1_firstSet_8 (lv_at hl 4 rfl) ?_
    refine lv_aload_n hx hb dX1_firstSet_10 rfl (lv_at hl 0 rfl) ?_
    refine x_get (C := RX1) (T := TX1) (N := 8) hx hb hts inX1_firstSet_X1 hown hG hw (xOh hq) rfl 2 (by decide) (hts (.fieldLink RX1 28 "SixNumbers$Heap" "counts" "[[J") (List.mem_of_getElem? (i := 1) rfl)) (fun _ h9 => h9) (v := .ref (xad G (4 + 6 * q))) (xf_h2 hq) dX1_firstSet_11 ?_
    refine x_alenR hx hb hG hw (xhC hq) .long rfl dX1_firstSet_14 ?_
    refine lv_icmp_ge (tgt := 54) hx hb dX1_firstSet_15 (by decide) (fun c_1 => ?_) (fun c_1 => ?_)
    · have h := h.1 c_1
      refine lv_iload_n hx hb dX1_firstSet_54 rfl (lv_at hl 2 rfl) ?_
      exact x_iret hx hb hr hlocks hG hw ⟨h, rfl, rfl⟩ dX1_firstSet_55
    · have h := h.2 c_1
      refine lv_aload_n hx hb dX1_firstSet_18 rfl (lv_at hl 0 rfl) ?_
      refine lv_iload hx hb dX1_firstSet_19 (lv_at hl 4 rfl) ?_
      refine lv_iload_n hx hb dX1_firstSet_21 rfl (lv_at hl 1 rfl) ?_
      refine x_calll hG hw (va_runV (As := [.int x4, .int x1]) (rest := []) ⟨hx, hb, hml, hown, hts⟩ (c_X1_countOf (l := l) (G := G) hq h) (cwV 2 hts gX1_firstSet_X1_countOf rfl rfl rfl (by decide +kernel) ⟨Nat.le_of_ble_eq_true rfl, Nat.le_of_ble_eq_true rfl⟩) (x_preV hG hw (xOh hq) rfl) rfl rfl hl.1 rfl (lv_room (Nat.le_of_ble_eq_true rfl)) dX1_firstSet_22 ⟨Nat.le_of_ble_eq_true rfl, Nat.le_of_ble_eq_true rfl⟩) (fun r_2 A9 L9 H locs hw h => ?_)
      rw [h.2.1, h.2.2] at hw
      have h := h.1
      refine lv_lconst (v := 0) hx hb dX1_firstSet_25 (by decide) ?_
      refine W.lcmp hx hb dX1_firstSet_26 ?_
      refine lv_if_le (tgt := 48) hx hb dX1_firstSet_27 (by decide) (fun c_3 => ?_) (fun c_3 => ?_)
      · have h := h.1 c_3
        obtain ⟨x4_4, ex4_4⟩ : ∃ y : Int32, y = x4 + (1 : Int32) := ⟨_, rfl⟩
        have h := h x4_4 ex4_4
        refine lv_iinc (v := x4_4) (lv' := [(4, .int x4_4), (0, .ref (xad G (2 + 6 * q))), (1, .int x1), (2, .int x2), (3, .int x3)]) hx hb dX1_firstSet_48 hl (k := 4) rfl (by rw [ex4_4]; rfl) (by decide) rfl (fun ls hl => ?_)
        refine lv_goto (tgt := 8) hx hb dX1_firstSet_51 (by decide) ?_
        exact ih x2 x3 x4_4 _ _ _ hw (lv_sub hl [1, 2, 3, 4, 0] rfl) h
      · have h := h.2 c_3
        refine lv_iload hx hb dX1_firstSet_30 (lv_at hl 4 rfl) ?_
        refine x_calli hG hw (va_runS (As := [.int x4]) (rest := []) ⟨hx, hb, hml, hown, hts⟩ (c_J6_bitCount_0f7a4 (l := l) (G := G) h) (va_cwS 1 hts gX1_firstSet_J6_bitCount_0f7a4 rfl rfl rfl (by decide +kernel) ⟨Nat.le_of_ble_eq_true rfl, Nat.le_of_ble_eq_true rfl⟩) (x_preS hG hw) rfl rfl hl.1 rfl (lv_room (Nat.le_of_ble_eq_true rfl)) dX1_firstSet_32 ⟨Nat.le_of_ble_eq_true rfl, Nat.le_of_ble_eq_true rfl⟩) (fun r_5 A9 L9 H locs hw h => ?_)
        rw [h.2.1, h.2.2] at hw
        have h := h.1
        refine lv_iload_n hx hb dX1_firstSet_35 rfl (lv_at hl 3 rfl) ?_
        refine lv_icmp_ge (tgt := 48) hx hb dX1_firstSet_36 (by decide) (fun c_6 => ?_) (fun c_6 => ?_)
        · have h := h.1 c_6
          obtain ⟨x4_7, ex4_7⟩ : ∃ y : Int32, y = x4 + (1 : Int32) := ⟨_, rfl⟩
          have h := h x4_7 ex4_7
          refine lv_iinc (v := x4_7) (lv' := [(4, .int x4_7), (0, .ref (xad G (2 + 6 * q))), (1, .int x1), (2, .int x2), (3, .int x3)]) hx hb dX1_firstSet_48 hl (k := 4) rfl (by rw [ex4_7]; rfl) (by decide) rfl (fun ls hl => ?_)
          refine lv_goto (tgt := 8) hx hb dX1_firstSet_51 (by decide) ?_
          exact ih x2 x3 x4_7 _ _ _ hw (lv_sub hl [1, 2, 3, 4, 0] rfl) h
        · have h := h.2 c_6
          refine lv_iload hx hb dX1_firstSet_39 (lv_at hl 4 rfl) ?_
          refine lv_istore_n (lv' := [(2, .int x4), (0, .ref (xad G (2 + 6 * q))), (1, .int x1), (3, .int x3), (4, .int x4)]) hx hb dX1_firstSet_41 rfl hl (by decide) rfl (fun ls hl => ?_)
          refine lv_iload hx hb dX1_firstSet_42 (lv_at hl 4 rfl) ?_
          refine x_calli hG hw (va_runS (As := [.int x4]) (rest := []) ⟨hx, hb, hml, hown, hts⟩ (c_J6_bitCount_0f7a4 (l := l) (G := G) h) (va_cwS 1 hts gX1_firstSet_J6_bitCount_0f7a4 rfl rfl rfl (by decide +kernel) ⟨Nat.le_of_ble_eq_true rfl, Nat.le_of_ble_eq_true rfl⟩) (x_preS hG hw) rfl rfl hl.1 rfl (lv_room (Nat.le_of_ble_eq_true rfl)) dX1_firstSet_44 ⟨Nat.le_of_ble_eq_true rfl, Nat.le_of_ble_eq_true rfl⟩) (fun r_8 A9 L9 H locs hw h => ?_)
          rw [h.2.1, h.2.2] at hw
          have h := h.1
          refine lv_istore_n (lv' := [(3, .int r_8), (2, .int x4), (0, .ref (xad G (2 + 6 * q))), (1, .int x1), (4, .int x4)]) hx hb dX1_firstSet_47 rfl hl (by decide) rfl (fun ls hl => ?_)
          obtain ⟨x4_9, ex4_9⟩ : ∃ y : Int32, y = x4 + (1 : Int32) := ⟨_, rfl⟩
          have h := h x4_9 ex4_9
          refine lv_iinc (v := x4_9) (lv' := [(4, .int x4_9), (3, .int r_8), (2, .int x4), (0, .ref (xad G (2 + 6 * q))), (1, .int x1)]) hx hb dX1_firstSet_48 hl (k := 4) rfl (by rw [ex4_9]; rfl) (by decide) rfl (fun ls hl => ?_)
          refine lv_goto (tgt := 8) hx hb dX1_firstSet_51 (by decide) ?_
          exact ih x4 r_8 x4_9 _ _ _ hw (lv_sub hl [3, 4, 2, 1, 0] rfl) h
set_option maxHeartbeats 4000000 in
set_option maxRecDepth 100000 in
theorem t_X1_firstSet_0 (C0 : xC p s m args meth c G cX1_firstSet (some .int) wsX1_firstSet RX1 5) {q : Nat} (hq : q < 2) {post : Int32 → Prop} {x1 : Int32} {A : xM} {L : xL} {H : Heap} {locs : List Loc} {ls : Array Slot} (hw : xW G s.heap A L H locs) (hl : lv_has ls 5 [(0, .ref (xad G (2 + 6 * q))), (1, .int x1)]) (h : v_X1_firstSet q x1 A L post) : W p l e rX1_firstSet s m args below meth c H locs 0 0 (MQ below (xQi G (xpi A L post)) args s 0 0 (xAf G)) (F0 m 0 ls []) := by
  obtain ⟨hx, hb, hr, hts, hown, hml, hlocks, hG⟩ := id C0
  unfold v_X1_firstSet at h
  refine lv_iconst (v := (-1)) hx hb dX1_firstSet_0 (by decide) ?_
  refine lv_istore_n (lv' := [(2, .int (-1 : Int32)), (0, .ref (xad G (2 + 6 * q))), (1, .int x1)]) hx hb dX1_firstSet_1 rfl hl (by decide) rfl (fun ls hl => ?_)
  refine lv_bipush (v := 7) hx hb dX1_firstSet_2 (by decide) ?_
  refine lv_istore_n (lv' := [(3, .int (7 : Int32)), (2, .int (-1 : Int32)), (0, .ref (xad G (2 + 6 * q))), (1, .int x1)]) hx hb dX1_firstSet_4 rfl hl (by decide) rfl (fun ls hl => ?_)
  refine lv_iconst (v := 1) hx hb dX1_firstSet_5 (by decide) ?_
  refine lv_istore (lv' := [(4, .int (1 : Int32)), (3, .int (7 : Int32)), (2, .int (-1 : Int32)), (0, .ref (xad G (2 + 6 * q))), (1, .int x1)]) hx hb dX1_firstSet_6 hl (by decide) rfl (fun ls hl => ?_)
  obtain ⟨n9, h⟩ := h
  exact t_X1_firstSet_8 C0 hq n9 (-1 : Int32) (7 : Int32) (1 : Int32) _ _ _ hw (lv_sub hl [3, 4, 2, 1, 0] rfl) h
theorem c_X1_firstSet {l : Launch} {G : xGt} {q : Nat} (hq : q < 2) {x1 : Int32} {A : xM} {L : xL} {post : Int32 → Prop} (h : v_X1_firstSet q x1 A L post) : Met l yX1_firstSet wsX1_firstSet rX1_firstSet (va_Pc [.ref (xad G (2 + 6 * q)), .int x1] (xPre G A L)) (xQi G (xpi A L post)) 0 0 (xAf G) :=
  x_met RX1 rfl (by decide) rfl (Nat.le_of_ble_eq_true rfl) (fun p e s m below meth c ls C0 hw hl => t_X1_firstSet_0 C0 hq hw hl h)
end MECH
abbrev rX1_nearest : Room := { frames := 1, cells := 0, slots := 0, locals := 21 }
def v_X1_nearest_2 (q : Nat) (x1 : Int32) (A : xM) (L : xL) (post : Int32 → Prop) : Nat → Int32 → Prop
  | 0, _ => False
  | n + 1, x2 => ((3000 : Int32) < x2 → (post (-1 : Int32))) ∧ (¬ (3000 : Int32) < x2 → (v_X1_reaches q (x1 - x2) A L (fun (r_2 : Int32) => ((r_2 = 0 → (v_X1_reaches q (x1 + x2) A L (fun (r_4 : Int32) => ((r_4 = 0 → (∀ x2_6 : Int32, x2_6 = x2 + (1 : Int32) → (v_X1_nearest_2 q x1 A L post n x2_6))) ∧ (¬ r_4 = 0 → (post (x1 + x2))))))) ∧ (¬ r_2 = 0 → (post (x1 - x2)))))))
def v_X1_nearest (q : Nat) (x1 : Int32) (A : xM) (L : xL) (post : Int32 → Prop) : Prop := ∃ k9 : Nat, v_X1_nearest_2 q x1 A L post k9 (0 : Int32)
section MECH
variable {p : Program} {l : Launch} {e : Env} {s : State} {m : MethodId} {args : Array Value} {below : List Frame} {meth : Method} {c : Code} {G : xGt}
set_option maxHeartbeats 4000000 in
set_option maxRecDepth 100000 in
theorem t_X1_nearest_2 (C0 : xC p s m args meth c G cX1_nearest (some .int) wsX1_nearest RX1 3) {q : Nat} (hq : q < 2) {post : Int32 → Prop} {x1 : Int32} {A : xM} {L : xL} : ∀ (n : Nat) (x2 : Int32) (H : Heap) (locs : List Loc) (ls : Array Slot), xW G s.heap A L H locs → lv_has ls 3 [(0, .ref (xad G (2 + 6 * q))), (1, .int x1), (2, .int x2)] → v_X1_nearest_2 q x1 A L post n x2 → W p l e rX1_nearest s m args below meth c H locs 0 0 (MQ below (xQi G (xpi A L post)) args s 0 0 (xAf G)) (F0 m 2 ls []) := by
  obtain ⟨hx, hb, hr, hts, hown, hml, hlocks, hG⟩ := id C0
  intro n
  induction n with
  | zero => intro x2 H locs ls hw hl h; exact (show False from h).elim
  | succ n ih =>
    intro x2 H locs ls hw hl h
    unfold v_X1_nearest_2 at h
    refine lv_iload_n hx hb dX1_nearest_2 rfl (lv_at hl 2 rfl) ?_
    refine lv_sipush (v := 3000) hx hb dX1_nearest_3 (by decide) ?_
    refine lv_icmp_gt (tgt := 43) hx hb dX1_nearest_6 (by decide) (fun c_1 => ?_) (fun c_1 => ?_)
    · have h := h.1 c_1
      refine lv_iconst (v := (-1)) hx hb dX1_nearest_43 (by decide) ?_
      exact x_iret hx hb hr hlocks hG hw ⟨h, rfl, rfl⟩ dX1_nearest_44
    · have h := h.2 c_1
      refine lv_aload_n hx hb dX1_nearest_9 rfl (lv_at hl 0 rfl) ?_
      refine lv_iload_n hx hb dX1_nearest_10 rfl (lv_at hl 1 rfl) ?_
      refine lv_iload_n hx hb dX1_nearest_11 rfl (lv_at hl 2 rfl) ?_
      refine lv_isub hx hb dX1_nearest_12 ?_
      refine x_calli hG hw (va_runV (As := [.int (x1 - x2)]) (rest := []) ⟨hx, hb, hml, hown, hts⟩ (c_X1_reaches (l := l) (G := G) hq h) (cwV 1 hts gX1_nearest_X1_reaches rfl rfl rfl (by decide +kernel) ⟨Nat.le_of_ble_eq_true rfl, Nat.le_of_ble_eq_true rfl⟩) (x_preV hG hw (xOh hq) rfl) rfl rfl hl.1 rfl (lv_room (Nat.le_of_ble_eq_true rfl)) dX1_nearest_13 ⟨Nat.le_of_ble_eq_true rfl, Nat.le_of_ble_eq_true rfl⟩) (fun r_2 A9 L9 H locs hw h => ?_)
      rw [h.2.1, h.2.2] at hw
      have h := h.1
      refine lv_if_eq (tgt := 23) hx hb dX1_nearest_16 (by decide) (fun c_3 => ?_) (fun c_3 => ?_)
      · have h := h.1 c_3
        refine lv_aload_n hx hb dX1_nearest_23 rfl (lv_at hl 0 rfl) ?_
        refine lv_iload_n hx hb dX1_nearest_24 rfl (lv_at hl 1 rfl) ?_
        refine lv_iload_n hx hb dX1_nearest_25 rfl (lv_at hl 2 rfl) ?_
        refine lv_iadd hx hb dX1_nearest_26 ?_
        refine x_calli hG hw (va_runV (As := [.int (x1 + x2)]) (rest := []) ⟨hx, hb, hml, hown, hts⟩ (c_X1_reaches (l := l) (G := G) hq h) (cwV 1 hts gX1_nearest_X1_reaches rfl rfl rfl (by decide +kernel) ⟨Nat.le_of_ble_eq_true rfl, Nat.le_of_ble_eq_true rfl⟩) (x_preV hG hw (xOh hq) rfl) rfl rfl hl.1 rfl (lv_room (Nat.le_of_ble_eq_true rfl)) dX1_nearest_27 ⟨Nat.le_of_ble_eq_true rfl, Nat.le_of_ble_eq_true rfl⟩) (fun r_4 A9 L9 H locs hw h => ?_)
        rw [h.2.1, h.2.2] at hw
        have h := h.1
        refine lv_if_eq (tgt := 37) hx hb dX1_nearest_30 (by decide) (fun c_5 => ?_) (fun c_5 => ?_)
        · have h := h.1 c_5
          obtain ⟨x2_6, ex2_6⟩ : ∃ y : Int32, y = x2 + (1 : Int32) := ⟨_, rfl⟩
          have h := h x2_6 ex2_6
          refine lv_iinc (v := x2_6) (lv' := [(2, .int x2_6), (0, .ref (xad G (2 + 6 * q))), (1, .int x1)]) hx hb dX1_nearest_37 hl (k := 2) rfl (by rw [ex2_6]; rfl) (by decide) rfl (fun ls hl => ?_)
          refine lv_goto (tgt := 2) hx hb dX1_nearest_40 (by decide) ?_
          exact ih x2_6 _ _ _ hw (lv_sub hl [1, 2, 0] rfl) h
        · have h := h.2 c_5
          refine lv_iload_n hx hb dX1_nearest_33 rfl (lv_at hl 1 rfl) ?_
          refine lv_iload_n hx hb dX1_nearest_34 rfl (lv_at hl 2 rfl) ?_
          refine lv_iadd hx hb dX1_nearest_35 ?_
          exact x_iret hx hb hr hlocks hG hw ⟨h, rfl, rfl⟩ dX1_nearest_36
      · have h := h.2 c_3
        refine lv_iload_n hx hb dX1_nearest_19 rfl (lv_at hl 1 rfl) ?_
        refine lv_iload_n hx hb dX1_nearest_20 rfl (lv_at hl 2 rfl) ?_
        refine lv_isub hx hb dX1_nearest_21 ?_
        exact x_iret hx hb hr hlocks hG hw ⟨h, rfl, rfl⟩ dX1_nearest_22
set_option maxHeartbeats 4000000 in
set_option maxRecDepth 100000 in
theorem t_X1_nearest_0 (C0 : xC p s m args meth c G cX1_nearest (some .int) wsX1_nearest RX1 3) {q : Nat} (hq : q < 2) {post : Int32 → Prop} {x1 : Int32} {A : xM} {L : xL} {H : Heap} {locs : List Loc} {ls : Array Slot} (hw : xW G s.heap A L H locs) (hl : lv_has ls 3 [(0, .ref (xad G (2 + 6 * q))), (1, .int x1)]) (h : v_X1_nearest q x1 A L post) : W p l e rX1_nearest s m args below meth c H locs 0 0 (MQ below (xQi G (xpi A L post)) args s 0 0 (xAf G)) (F0 m 0 ls []) := by
  obtain ⟨hx, hb, hr, hts, hown, hml, hlocks, hG⟩ := id C0
  unfold v_X1_nearest at h
  refine lv_iconst (v := 0) hx hb dX1_nearest_0 (by decide) ?_
  refine lv_istore_n (lv' := [(2, .int (0 : Int32)), (0, .ref (xad G (2 + 6 * q))), (1, .int x1)]) hx hb dX1_nearest_1 rfl hl (by decide) rfl (fun ls hl => ?_)
  obtain ⟨n9, h⟩ := h
  exact t_X1_nearest_2 C0 hq n9 (0 : Int32) _ _ _ hw (lv_sub hl [1, 2, 0] rfl) h
theorem c_X1_nearest {l : Launch} {G : xGt} {q : Nat} (hq : q < 2) {x1 : Int32} {A : xM} {L : xL} {post : Int32 → Prop} (h : v_X1_nearest q x1 A L post) : Met l yX1_nearest wsX1_nearest rX1_nearest (va_Pc [.ref (xad G (2 + 6 * q)), .int x1] (xPre G A L)) (xQi G (xpi A L post)) 0 0 (xAf G) :=
  x_met RX1 rfl (by decide) rfl (Nat.le_of_ble_eq_true rfl) (fun p e s m below meth c ls C0 hw hl => t_X1_nearest_0 C0 hq hw hl h)
end MECH
abbrev rX1_leastLeftNumber : Room := { frames := 1, cells := 0, slots := 0, locals := 22 }
theorem inX1_leastLeftNumber_X1 : ∀ w ∈ wsX10, w ∈ wsX1_leastLeftNumber := fun w h => List.mem_cons_of_mem _ (List.mem_append_left _ (List.mem_append_right _ h))
def v_X1_leastLeftNumber_131 (q : Nat) (x1 : Int32) (x2 : Int32) (x3 : Int32) (x4 : Int32) (x7 : Int32) (x8 : Int32) (x9 : Int32) (s0 : Int32) (A : xM) (L : xL) (R_84 : Int32 → Int32 → Prop) (post : Int32 → Prop) : Prop := (s0 = 0 → (∀ x8_2 : Int32, x8_2 = x8 + (1 : Int32) → (R_84 x7 x8_2))) ∧ (¬ s0 = 0 → ((x7 = (-1 : Int32) → (∀ x8_4 : Int32, x8_4 = x8 + (1 : Int32) → (R_84 x9 x8_4))) ∧ (¬ x7 = (-1 : Int32) → ((x7 ≤ x9 → (∀ x8_6 : Int32, x8_6 = x8 + (1 : Int32) → (R_84 x7 x8_6))) ∧ (¬ x7 ≤ x9 → (∀ x8_7 : Int32, x8_7 = x8 + (1 : Int32) → (R_84 x9 x8_7)))))))
def v_X1_leastLeftNumber_84 (q : Nat) (x1 : Int32) (x2 : Int32) (x3 : Int32) (x4 : Int32) (A : xM) (L : xL) (post : Int32 → Prop) : Nat → Int32 → Int32 → Prop
  | 0, _, _ => False
  | n + 1, x7, x8 => vp_in x2 (64 - 48 * q) ∧ (((A (6 + 6 * q) x2.toNatClampNeg) ≤ x8 → (post x7)) ∧ (¬ (A (6 + 6 * q) x2.toNatClampNeg) ≤ x8 → (vp_in x8 3000 ∧ (∀ x9_4 : Int32, x9_4 = (A ((100 + 80 * q) + x2.toNatClampNeg) x8.toNatClampNeg) → (v_X5_rightNumber x3 x9_4 x4 (fun (r_5 : Int32) => (v_X1_countOf q (x1 ^^^ x2) r_5 A L (fun (r_6 : Int64) => (((lg_cmp r_6 (0 : Int64)) ≤ 0 → (v_X1_leastLeftNumber_131 q x1 x2 x3 x4 x7 x8 x9_4 (0 : Int32) A L (fun x7 x8 => v_X1_leastLeftNumber_84 q x1 x2 x3 x4 A L post n x7 x8) post)) ∧ (¬ (lg_cmp r_6 (0 : Int64)) ≤ 0 → (v_X1_leastLeftNumber_131 q x1 x2 x3 x4 x7 x8 x9_4 (1 : Int32) A L (fun x7 x8 => v_X1_leastLeftNumber_84 q x1 x2 x3 x4 A L post n x7 x8) post)))))))))))
def v_X1_leastLeftNumber_49 (q : Nat) (x1 : Int32) (x2 : Int32) (x3 : Int32) (x4 : Int32) (A : xM) (L : xL) (post : Int32 → Prop) : Prop := v_X3_allow x3 A L (fun (r_1 : Int32) => ((¬ r_1 = 0 → ((x2 < (1 : Int32) → (post (-1 : Int32))) ∧ (¬ x2 < (1 : Int32) → ((x2 < (nI (64 - 48 * q)) → (∃ k9 : Nat, v_X1_leastLeftNumber_84 q x1 x2 x3 x4 A L post k9 (-1 : Int32) (0 : Int32))) ∧ (¬ x2 < (nI (64 - 48 * q)) → (post (-1 : Int32))))))) ∧ (r_1 = 0 → (post (-1 : Int32)))))
def v_X1_leastLeftNumber_30 (q : Nat) (x1 : Int32) (x2 : Int32) (x3 : Int32) (x4 : Int32) (x5 : Int32) (s0 : Int32) (A : xM) (L : xL) (post : Int32 → Prop) : Prop := (¬ (x2 &&& x1) = x2 → (post (-1 : Int32))) ∧ ((x2 &&& x1) = x2 → ((s0 = 0 → (v_X1_leastLeftNumber_49 q x1 x2 x3 x4 A L post)) ∧ (¬ s0 = 0 → ((x5 = 0 → (post (-1 : Int32))) ∧ (¬ x5 = 0 → (v_X1_leastLeftNumber_49 q x1 x2 x3 x4 A L post))))))
def v_X1_leastLeftNumber_14 (q : Nat) (x1 : Int32) (x2 : Int32) (x3 : Int32) (x4 : Int32) (s0 : Int32) (A : xM) (L : xL) (post : Int32 → Prop) : Prop := (x3 = 0 → (v_X1_leastLeftNumber_30 q x1 x2 x3 x4 s0 (1 : Int32) A L post)) ∧ (¬ x3 = 0 → ((¬ x3 = (2 : Int32) → (v_X1_leastLeftNumber_30 q x1 x2 x3 x4 s0 (0 : Int32) A L post)) ∧ (x3 = (2 : Int32) → (v_X1_leastLeftNumber_30 q x1 x2 x3 x4 s0 (1 : Int32) A L post))))
def v_X1_leastLeftNumber (q : Nat) (x1 : Int32) (x2 : Int32) (x3 : Int32) (x4 : Int32) (A : xM) (L : xL) (post : Int32 → Prop) : Prop := (((x2 &&& x1) &&& (-x1)) = 0 → (v_X1_leastLeftNumber_14 q x1 x2 x3 x4 (0 : Int32) A L post)) ∧ (¬ ((x2 &&& x1) &&& (-x1)) = 0 → (v_X1_leastLeftNumber_14 q x1 x2 x3 x4 (1 : Int32) A L post))
section MECH
variable {p : Program} {l : Launch} {e : Env} {s : State} {m : MethodId} {args : Array Value} {below : List Frame} {meth : Method} {c : Code} {G : xGt}
set_option maxHeartbeats 4000000 in
set_option maxRecDepth 100000 in
theorem t_X1_leastLeftNumber_131 (C0 : xC p s m args meth c G cX1_leastLeftNumber (some .int) wsX1_leastLeftNumber RX1 11) {q : Nat} (hq : q < 2) {post : Int32 → Prop} {x1 : Int32} {x2 : Int32} {x3 : Int32} {x4 : Int32} {x7 : Int32} {x8 : Int32} {x9 : Int32} {s0 : Int32} {A : xM} {L : xL} {R_84 : Int32 → Int32 → Prop} (hR_84 : ∀ (x7 : Int32) (x8 : Int32) (H : Heap) (locs : List Loc) (ls : Array Slot), xW G s.heap A L H locs → lv_has ls 11 [(0, .ref (xad G (2 + 6 * q))), (1, .int x1), (2, .int x2), (3, .int x3), (4, .int x4), (7, .int x7), (8, .int x8)] → R_84 x7 x8 → W p l e rX1_leastLeftNumber s m args below meth c H locs 0 0 (MQ below (xQi G (xpi A L post)) args s 0 0 (xAf G)) (F0 m 84 ls [])) {H : Heap} {locs : List Loc} {ls : Array Slot} (hw : xW G s.heap A L H locs) (hl : lv_has ls 11 [(0, .ref (xad G (2 + 6 * q))), (1, .int x1), (2, .int x2), (3, .int x3), (4, .int x4), (7, .int x7), (8, .int x8), (9, .int x9)]) (h : v_X1_leastLeftNumber_131 q x1 x2 x3 x4 x7 x8 x9 s0 A L R_84 post) : W p l e rX1_leastLeftNumber s m args below meth c H locs 0 0 (MQ below (xQi G (xpi A L post)) args s 0 0 (xAf G)) (F0 m 131 ls [.int s0]) := by
  obtain ⟨hx, hb, hr, hts, hown, hml, hlocks, hG⟩ := id C0
  unfold v_X1_leastLeftNumber_131 at h
  refine lv_istore (lv' := [(10, .int s0), (0, .ref (xad G (2 + 6 * q))), (1, .int x1), (2, .int x2), (3, .int x3), (4, .int x4), (7, .int x7), (8, .int x8), (9, .int x9)]) hx hb dX1_leastLeftNumber_131 hl (by decide) rfl (fun ls hl => ?_)
  refine lv_iload hx hb dX1_leastLeftNumber_133 (lv_at hl 0 rfl) ?_
  refine lv_if_eq (tgt := 155) hx hb dX1_leastLeftNumber_135 (by decide) (fun c_1 => ?_) (fun c_1 => ?_)
  · have h := h.1 c_1
    obtain ⟨x8_2, ex8_2⟩ : ∃ y : Int32, y = x8 + (1 : Int32) := ⟨_, rfl⟩
    have h := h x8_2 ex8_2
    refine lv_iinc (v := x8_2) (lv' := [(8, .int x8_2), (10, .int s0), (0, .ref (xad G (2 + 6 * q))), (1, .int x1), (2, .int x2), (3, .int x3), (4, .int x4), (7, .int x7), (9, .int x9)]) hx hb dX1_leastLeftNumber_155 hl (k := 7) rfl (by rw [ex8_2]; rfl) (by decide) rfl (fun ls hl => ?_)
    refine lv_goto (tgt := 84) hx hb dX1_leastLeftNumber_158 (by decide) ?_
    exact hR_84 x7 x8_2 _ _ _ hw (lv_sub hl [2, 3, 4, 5, 6, 7, 0] rfl) h
  · have h := h.2 c_1
    refine lv_iload hx hb dX1_leastLeftNumber_138 (lv_at hl 6 rfl) ?_
    refine lv_iconst (v := (-1)) hx hb dX1_leastLeftNumber_140 (by decide) ?_
    refine lv_icmp_eq (tgt := 151) hx hb dX1_leastLeftNumber_141 (by decide) (fun c_3 => ?_) (fun c_3 => ?_)
    · have h := h.1 c_3
      refine lv_iload hx hb dX1_leastLeftNumber_151 (lv_at hl 8 rfl) ?_
      refine lv_istore (lv' := [(7, .int x9), (10, .int s0), (0, .ref (xad G (2 + 6 * q))), (1, .int x1), (2, .int x2), (3, .int x3), (4, .int x4), (8, .int x8), (9, .int x9)]) hx hb dX1_leastLeftNumber_153 hl (by decide) rfl (fun ls hl => ?_)
      obtain ⟨x8_4, ex8_4⟩ : ∃ y : Int32, y = x8 + (1 : Int32) := ⟨_, rfl⟩
      have h := h x8_4 ex8_4
      refine lv_iinc (v := x8_4) (lv' := [(8, .int x8_4), (7, .int x9), (10, .int s0), (0, .ref (xad G (2 + 6 * q))), (1, .int x1), (2, .int x2), (3, .int x3), (4, .int x4), (9, .int x9)]) hx hb dX1_leastLeftNumber_155 hl (k := 7) rfl (by rw [ex8_4]; rfl) (by decide) rfl (fun ls hl => ?_)
      refine lv_goto (tgt := 84) hx hb dX1_leastLeftNumber_158 (by decide) ?_
      exact hR_84 x9 x8_4 _ _ _ hw (lv_sub hl [3, 4, 5, 6, 7, 1, 0] rfl) h
    · have h := h.2 c_3
      refine lv_iload hx hb dX1_leastLeftNumber_144 (lv_at hl 8 rfl) ?_
      refine lv_iload hx hb dX1_leastLeftNumber_146 (lv_at hl 6 rfl) ?_
      refine lv_icmp_ge (tgt := 155) hx hb dX1_leastLeftNumber_148 (by decide) (fun c_5 => ?_) (fun c_5 => ?_)
      · have h := h.1 c_5
        obtain ⟨x8_6, ex8_6⟩ : ∃ y : Int32, y = x8 + (1 : Int32) := ⟨_, rfl⟩
        have h := h x8_6 ex8_6
        refine lv_iinc (v := x8_6) (lv' := [(8, .int x8_6), (10, .int s0), (0, .ref (xad G (2 + 6 * q))), (1, .int x1), (2, .int x2), (3, .int x3), (4, .int x4), (7, .int x7), (9, .int x9)]) hx hb dX1_leastLeftNumber_155 hl (k := 7) rfl (by rw [ex8_6]; rfl) (by decide) rfl (fun ls hl => ?_)
        refine lv_goto (tgt := 84) hx hb dX1_leastLeftNumber_158 (by decide) ?_
        exact hR_84 x7 x8_6 _ _ _ hw (lv_sub hl [2, 3, 4, 5, 6, 7, 0] rfl) h
      · have h := h.2 c_5
        refine lv_iload hx hb dX1_leastLeftNumber_151 (lv_at hl 8 rfl) ?_
        refine lv_istore (lv' := [(7, .int x9), (10, .int s0), (0, .ref (xad G (2 + 6 * q))), (1, .int x1), (2, .int x2), (3, .int x3), (4, .int x4), (8, .int x8), (9, .int x9)]) hx hb dX1_leastLeftNumber_153 hl (by decide) rfl (fun ls hl => ?_)
        obtain ⟨x8_7, ex8_7⟩ : ∃ y : Int32, y = x8 + (1 : Int32) := ⟨_, rfl⟩
        have h := h x8_7 ex8_7
        refine lv_iinc (v := x8_7) (lv' := [(8, .int x8_7), (7, .int x9), (10, .int s0), (0, .ref (xad G (2 + 6 * q))), (1, .int x1), (2, .int x2), (3, .int x3), (4, .int x4), (9, .int x9)]) hx hb dX1_leastLeftNumber_155 hl (k := 7) rfl (by rw [ex8_7]; rfl) (by decide) rfl (fun ls hl => ?_)
        refine lv_goto (tgt := 84) hx hb dX1_leastLeftNumber_158 (by decide) ?_
        exact hR_84 x9 x8_7 _ _ _ hw (lv_sub hl [3, 4, 5, 6, 7, 1, 0] rfl) h
set_option maxHeartbeats 4000000 in
set_option maxRecDepth 100000 in
theorem t_X1_leastLeftNumber_84 (C0 : xC p s m args meth c G cX1_leastLeftNumber (some .int) wsX1_leastLeftNumber RX1 11) {q : Nat} (hq : q < 2) {post : Int32 → Prop} {x1 : Int32} {x2 : Int32} {x3 : Int32} {x4 : Int32} {A : xM} {L : xL} : ∀ (n : Nat) (x7 : Int32) (x8 : Int32) (H : Heap) (locs : List Loc) (ls : Array Slot), xW G s.heap A L H locs → lv_has ls 11 [(0, .ref (xad G (2 + 6 * q))), (1, .int x1), (2, .int x2), (3, .int x3), (4, .int x4), (7, .int x7), (8, .int x8)] → v_X1_leastLeftNumber_84 q x1 x2 x3 x4 A L post n x7 x8 → W p l e rX1_leastLeftNumber s m args below meth c H locs 0 0 (MQ below (xQi G (xpi A L post)) args s 0 0 (xAf G)) (F0 m 84 ls []) := by
  obtain ⟨hx, hb, hr, hts, hown, hml, hlocks, hG⟩ := id C0
  intro n
  induction n with
  | zero => intro x7 x8 H locs ls hw hl h; exact (show False from h).elim
  | succ n ih =>
    intro x7 x8 H locs ls hw hl h
    unfold v_X1_leastLeftNumber_84 at h
    refine lv_iload hx hb dX1_leastLeftNumber_84 (lv_at hl 6 rfl) ?_
    refine lv_aload_n hx hb dX1_leastLeftNumber_86 rfl (lv_at hl 0 rfl) ?_
    refine x_get (C := RX1) (T := TX1) (N := 8) hx hb hts inX1_leastLeftNumber_X1 hown hG hw (xOh hq) rfl 4 (by decide) (hts (.fieldLink RX1 36 "SixNumbers$Heap" "founds" "[I") (List.mem_of_getElem? (i := 2) rfl)) (fun _ h9 => h9) (v := .ref (xad G (6 + 6 * q))) (xf_h4 hq) dX1_leastLeftNumber_87 ?_
    refine lv_iload_n hx hb dX1_leastLeftNumber_90 rfl (lv_at hl 2 rfl) ?_
    have i_1 := h.1
    have h := h.2
    refine x_iald hx hb hG hw (xhN hq) i_1 dX1_leastLeftNumber_91 ?_
    refine lv_icmp_ge (tgt := 161) hx hb dX1_leastLeftNumber_92 (by decide) (fun c_2 => ?_) (fun c_2 => ?_)
    · have h := h.1 c_2
      refine lv_iload hx hb dX1_leastLeftNumber_161 (lv_at hl 5 rfl) ?_
      exact x_iret hx hb hr hlocks hG hw ⟨h, rfl, rfl⟩ dX1_leastLeftNumber_163
    · have h := h.2 c_2
      refine lv_aload_n hx hb dX1_leastLeftNumber_95 rfl (lv_at hl 0 rfl) ?_
      refine x_get (C := RX1) (T := TX1) (N := 8) hx hb hts inX1_leastLeftNumber_X1 hown hG hw (xOh hq) rfl 3 (by decide) (hts (.fieldLink RX1 33 "SixNumbers$Heap" "found" "[[I") (List.mem_of_getElem? (i := 3) rfl)) (fun _ h9 => h9) (v := .ref (xad G (5 + 6 * q))) (xf_h3 hq) dX1_leastLeftNumber_96 ?_
      refine lv_iload_n hx hb dX1_leastLeftNumber_99 rfl (lv_at hl 2 rfl) ?_
      refine x_aald hx hb hG hw (xhF hq) .int rfl i_1 dX1_leastLeftNumber_100 ?_
      refine lv_iload hx hb dX1_leastLeftNumber_101 (lv_at hl 6 rfl) ?_
      have i_3 := h.1
      have h := h.2
      refine x_iald hx hb hG hw (xrF hq i_1) i_3 dX1_leastLeftNumber_103 ?_
      refine lv_topi (fun x9_4 ex9_4 => ?_)
      have h := h x9_4 ex9_4
      refine lv_istore (lv' := [(9, .int x9_4), (0, .ref (xad G (2 + 6 * q))), (1, .int x1), (2, .int x2), (3, .int x3), (4, .int x4), (7, .int x7), (8, .int x8)]) hx hb dX1_leastLeftNumber_104 hl (by decide) rfl (fun ls hl => ?_)
      refine lv_aload_n hx hb dX1_leastLeftNumber_106 rfl (lv_at hl 1 rfl) ?_
      refine lv_iload_n hx hb dX1_leastLeftNumber_107 rfl (lv_at hl 2 rfl) ?_
      refine lv_iload_n hx hb dX1_leastLeftNumber_108 rfl (lv_at hl 3 rfl) ?_
      refine lv_ixor hx hb dX1_leastLeftNumber_109 ?_
      refine lv_iload_n hx hb dX1_leastLeftNumber_110 rfl (lv_at hl 4 rfl) ?_
      refine lv_iload hx hb dX1_leastLeftNumber_111 (lv_at hl 0 rfl) ?_
      refine lv_iload hx hb dX1_leastLeftNumber_113 (lv_at hl 5 rfl) ?_
      refine x_calli hG hw (va_runSN (As := [.int x3, .int x9_4, .int x4]) (rest := [.int (x1 ^^^ x2), .ref (xad G (2 + 6 * q))]) ⟨hx, hb, hml, hown, hts⟩ (c_X5_rightNumber (l := l) (G := G) h) ⟨va_cnB 3 hts ggX1_leastLeftNumber_X5_rightNumber rfl rfl rfl (hG.2.2.2.1 _ (List.mem_of_getElem? (i := 9) rfl)) (hts _ (List.mem_of_getElem? (i := 11) rfl)) (by decide +kernel) ⟨Nat.le_of_ble_eq_true rfl, Nat.le_of_ble_eq_true rfl⟩, (hts _ (List.mem_of_getElem? (i := 10) rfl)), trivial⟩ (x_preS hG hw) rfl rfl hl.1 rfl (lv_room (Nat.le_of_ble_eq_true rfl)) dX1_leastLeftNumber_115 ⟨Nat.le_of_ble_eq_true rfl, Nat.le_of_ble_eq_true rfl⟩) (fun r_5 A9 L9 H locs hw h => ?_)
      rw [h.2.1, h.2.2] at hw
      have h := h.1
      refine x_calll hG hw (va_runV (As := [.int (x1 ^^^ x2), .int r_5]) (rest := []) ⟨hx, hb, hml, hown, hts⟩ (c_X1_countOf (l := l) (G := G) hq h) (cwV 2 hts gX1_leastLeftNumber_X1_countOf rfl rfl rfl (by decide +kernel) ⟨Nat.le_of_ble_eq_true rfl, Nat.le_of_ble_eq_true rfl⟩) (x_preV hG hw (xOh hq) rfl) rfl rfl hl.1 rfl (lv_room (Nat.le_of_ble_eq_true rfl)) dX1_leastLeftNumber_118 ⟨Nat.le_of_ble_eq_true rfl, Nat.le_of_ble_eq_true rfl⟩) (fun r_6 A9 L9 H locs hw h => ?_)
      rw [h.2.1, h.2.2] at hw
      have h := h.1
      refine lv_lconst (v := 0) hx hb dX1_leastLeftNumber_121 (by decide) ?_
      refine W.lcmp hx hb dX1_leastLeftNumber_122 ?_
      refine lv_if_le (tgt := 130) hx hb dX1_leastLeftNumber_123 (by decide) (fun c_7 => ?_) (fun c_7 => ?_)
      · have h := h.1 c_7
        refine lv_iconst (v := 0) hx hb dX1_leastLeftNumber_130 (by decide) ?_
        exact t_X1_leastLeftNumber_131 C0 hq ih hw (lv_sub hl [1, 2, 3, 4, 5, 6, 7, 0] rfl) h
      · have h := h.2 c_7
        refine lv_iconst (v := 1) hx hb dX1_leastLeftNumber_126 (by decide) ?_
        refine lv_goto (tgt := 131) hx hb dX1_leastLeftNumber_127 (by decide) ?_
        exact t_X1_leastLeftNumber_131 C0 hq ih hw (lv_sub hl [1, 2, 3, 4, 5, 6, 7, 0] rfl) h
set_option maxHeartbeats 4000000 in
set_option maxRecDepth 100000 in
theorem t_X1_leastLeftNumber_49 (C0 : xC p s m args meth c G cX1_leastLeftNumber (some .int) wsX1_leastLeftNumber RX1 11) {q : Nat} (hq : q < 2) {post : Int32 → Prop} {x1 : Int32} {x2 : Int32} {x3 : Int32} {x4 : Int32} {A : xM} {L : xL} {H : Heap} {locs : List Loc} {ls : Array Slot} (hw : xW G s.heap A L H locs) (hl : lv_has ls 11 [(0, .ref (xad G (2 + 6 * q))), (1, .int x1), (2, .int x2), (3, .int x3), (4, .int x4)]) (h : v_X1_leastLeftNumber_49 q x1 x2 x3 x4 A L post) : W p l e rX1_leastLeftNumber s m args below meth c H locs 0 0 (MQ below (xQi G (xpi A L post)) args s 0 0 (xAf G)) (F0 m 49 ls []) := by
  obtain ⟨hx, hb, hr, hts, hown, hml, hlocks, hG⟩ := id C0
  unfold v_X1_leastLeftNumber_49 at h
  refine lv_aload_n hx hb dX1_leastLeftNumber_49 rfl (lv_at hl 0 rfl) ?_
  refine x_get (C := RX1) (T := TX1) (N := 8) hx hb hts inX1_leastLeftNumber_X1 hown hG hw (xOh hq) rfl 0 (by decide) (hts (.fieldLink RX1 18 "SixNumbers$Heap" "rules" "LSixNumbers$Rules;") (List.mem_of_getElem? (i := 1) rfl)) (fun _ h9 => h9) (v := .ref (xad G 1)) (xf_h0 hq) dX1_leastLeftNumber_50 ?_
  refine lv_iload_n hx hb dX1_leastLeftNumber_53 rfl (lv_at hl 3 rfl) ?_
  refine x_calli hG hw (va_runV (As := [.int x3]) (rest := []) ⟨hx, hb, hml, hown, hts⟩ (c_X3_allow (l := l) (G := G) h) (cwV 1 hts gX1_leastLeftNumber_X3_allow rfl rfl rfl (by decide +kernel) ⟨Nat.le_of_ble_eq_true rfl, Nat.le_of_ble_eq_true rfl⟩) (x_preV hG hw xO1 rfl) rfl rfl hl.1 rfl (lv_room (Nat.le_of_ble_eq_true rfl)) dX1_leastLeftNumber_54 ⟨Nat.le_of_ble_eq_true rfl, Nat.le_of_ble_eq_true rfl⟩) (fun r_1 A9 L9 H locs hw h => ?_)
  rw [h.2.1, h.2.2] at hw
  have h := h.1
  refine lv_if_ne (tgt := 62) hx hb dX1_leastLeftNumber_57 (by decide) (fun c_2 => ?_) (fun c_2 => ?_)
  · have h := h.1 c_2
    refine lv_iload_n hx hb dX1_leastLeftNumber_62 rfl (lv_at hl 2 rfl) ?_
    refine lv_iconst (v := 1) hx hb dX1_leastLeftNumber_63 (by decide) ?_
    refine lv_icmp_lt (tgt := 76) hx hb dX1_leastLeftNumber_64 (by decide) (fun c_3 => ?_) (fun c_3 => ?_)
    · have h := h.1 c_3
      refine lv_iconst (v := (-1)) hx hb dX1_leastLeftNumber_76 (by decide) ?_
      exact x_iret hx hb hr hlocks hG hw ⟨h, rfl, rfl⟩ dX1_leastLeftNumber_77
    · have h := h.2 c_3
      refine lv_iload_n hx hb dX1_leastLeftNumber_67 rfl (lv_at hl 2 rfl) ?_
      refine lv_aload_n hx hb dX1_leastLeftNumber_68 rfl (lv_at hl 0 rfl) ?_
      refine x_get (C := RX1) (T := TX1) (N := 8) hx hb hts inX1_leastLeftNumber_X1 hown hG hw (xOh hq) rfl 4 (by decide) (hts (.fieldLink RX1 36 "SixNumbers$Heap" "founds" "[I") (List.mem_of_getElem? (i := 2) rfl)) (fun _ h9 => h9) (v := .ref (xad G (6 + 6 * q))) (xf_h4 hq) dX1_leastLeftNumber_69 ?_
      refine x_alenI hx hb hG hw (xhN hq) dX1_leastLeftNumber_72 ?_
      refine lv_icmp_lt (tgt := 78) hx hb dX1_leastLeftNumber_73 (by decide) (fun c_4 => ?_) (fun c_4 => ?_)
      · have h := h.1 c_4
        refine lv_iconst (v := (-1)) hx hb dX1_leastLeftNumber_78 (by decide) ?_
        refine lv_istore (lv' := [(7, .int (-1 : Int32)), (0, .ref (xad G (2 + 6 * q))), (1, .int x1), (2, .int x2), (3, .int x3), (4, .int x4)]) hx hb dX1_leastLeftNumber_79 hl (by decide) rfl (fun ls hl => ?_)
        refine lv_iconst (v := 0) hx hb dX1_leastLeftNumber_81 (by decide) ?_
        refine lv_istore (lv' := [(8, .int (0 : Int32)), (7, .int (-1 : Int32)), (0, .ref (xad G (2 + 6 * q))), (1, .int x1), (2, .int x2), (3, .int x3), (4, .int x4)]) hx hb dX1_leastLeftNumber_82 hl (by decide) rfl (fun ls hl => ?_)
        obtain ⟨n9, h⟩ := h
        exact t_X1_leastLeftNumber_84 C0 hq n9 (-1 : Int32) (0 : Int32) _ _ _ hw (lv_sub hl [2, 3, 4, 5, 6, 1, 0] rfl) h
      · have h := h.2 c_4
        refine lv_iconst (v := (-1)) hx hb dX1_leastLeftNumber_76 (by decide) ?_
        exact x_iret hx hb hr hlocks hG hw ⟨h, rfl, rfl⟩ dX1_leastLeftNumber_77
  · have h := h.2 c_2
    refine lv_iconst (v := (-1)) hx hb dX1_leastLeftNumber_60 (by decide) ?_
    exact x_iret hx hb hr hlocks hG hw ⟨h, rfl, rfl⟩ dX1_leastLeftNumber_61
set_option maxHeartbeats 4000000 in
set_option maxRecDepth 100000 in
theorem t_X1_leastLeftNumber_30 (C0 : xC p s m args meth c G cX1_leastLeftNumber (some .int) wsX1_leastLeftNumber RX1 11) {q : Nat} (hq : q < 2) {post : Int32 → Prop} {x1 : Int32} {x2 : Int32} {x3 : Int32} {x4 : Int32} {x5 : Int32} {s0 : Int32} {A : xM} {L : xL} {H : Heap} {locs : List Loc} {ls : Array Slot} (hw : xW G s.heap A L H locs) (hl : lv_has ls 11 [(0, .ref (xad G (2 + 6 * q))), (1, .int x1), (2, .int x2), (3, .int x3), (4, .int x4), (5, .int x5)]) (h : v_X1_leastLeftNumber_30 q x1 x2 x3 x4 x5 s0 A L post) : W p l e rX1_leastLeftNumber s m args below meth c H locs 0 0 (MQ below (xQi G (xpi A L post)) args s 0 0 (xAf G)) (F0 m 30 ls [.int s0]) := by
  obtain ⟨hx, hb, hr, hts, hown, hml, hlocks, hG⟩ := id C0
  unfold v_X1_leastLeftNumber_30 at h
  refine lv_istore (lv' := [(6, .int s0), (0, .ref (xad G (2 + 6 * q))), (1, .int x1), (2, .int x2), (3, .int x3), (4, .int x4), (5, .int x5)]) hx hb dX1_leastLeftNumber_30 hl (by decide) rfl (fun ls hl => ?_)
  refine lv_iload_n hx hb dX1_leastLeftNumber_32 rfl (lv_at hl 3 rfl) ?_
  refine lv_iload_n hx hb dX1_leastLeftNumber_33 rfl (lv_at hl 2 rfl) ?_
  refine lv_iand hx hb dX1_leastLeftNumber_34 ?_
  refine lv_iload_n hx hb dX1_leastLeftNumber_35 rfl (lv_at hl 3 rfl) ?_
  refine lv_icmp_ne (tgt := 60) hx hb dX1_leastLeftNumber_36 (by decide) (fun c_1 => ?_) (fun c_1 => ?_)
  · have h := h.1 c_1
    refine lv_iconst (v := (-1)) hx hb dX1_leastLeftNumber_60 (by decide) ?_
    exact x_iret hx hb hr hlocks hG hw ⟨h, rfl, rfl⟩ dX1_leastLeftNumber_61
  · have h := h.2 c_1
    refine lv_iload hx hb dX1_leastLeftNumber_39 (lv_at hl 0 rfl) ?_
    refine lv_if_eq (tgt := 49) hx hb dX1_leastLeftNumber_41 (by decide) (fun c_2 => ?_) (fun c_2 => ?_)
    · have h := h.1 c_2
      exact t_X1_leastLeftNumber_49 C0 hq hw (lv_sub hl [1, 2, 3, 4, 5] rfl) h
    · have h := h.2 c_2
      refine lv_iload hx hb dX1_leastLeftNumber_44 (lv_at hl 6 rfl) ?_
      refine lv_if_eq (tgt := 60) hx hb dX1_leastLeftNumber_46 (by decide) (fun c_3 => ?_) (fun c_3 => ?_)
      · have h := h.1 c_3
        refine lv_iconst (v := (-1)) hx hb dX1_leastLeftNumber_60 (by decide) ?_
        exact x_iret hx hb hr hlocks hG hw ⟨h, rfl, rfl⟩ dX1_leastLeftNumber_61
      · have h := h.2 c_3
        exact t_X1_leastLeftNumber_49 C0 hq hw (lv_sub hl [1, 2, 3, 4, 5] rfl) h
set_option maxHeartbeats 4000000 in
set_option maxRecDepth 100000 in
theorem t_X1_leastLeftNumber_14 (C0 : xC p s m args meth c G cX1_leastLeftNumber (some .int) wsX1_leastLeftNumber RX1 11) {q : Nat} (hq : q < 2) {post : Int32 → Prop} {x1 : Int32} {x2 : Int32} {x3 : Int32} {x4 : Int32} {s0 : Int32} {A : xM} {L : xL} {H : Heap} {locs : List Loc} {ls : Array Slot} (hw : xW G s.heap A L H locs) (hl : lv_has ls 11 [(0, .ref (xad G (2 + 6 * q))), (1, .int x1), (2, .int x2), (3, .int x3), (4, .int x4)]) (h : v_X1_leastLeftNumber_14 q x1 x2 x3 x4 s0 A L post) : W p l e rX1_leastLeftNumber s m args below meth c H locs 0 0 (MQ below (xQi G (xpi A L post)) args s 0 0 (xAf G)) (F0 m 14 ls [.int s0]) := by
  obtain ⟨hx, hb, hr, hts, hown, hml, hlocks, hG⟩ := id C0
  unfold v_X1_leastLeftNumber_14 at h
  refine lv_istore (lv' := [(5, .int s0), (0, .ref (xad G (2 + 6 * q))), (1, .int x1), (2, .int x2), (3, .int x3), (4, .int x4)]) hx hb dX1_leastLeftNumber_14 hl (by decide) rfl (fun ls hl => ?_)
  refine lv_iload_n hx hb dX1_leastLeftNumber_16 rfl (lv_at hl 4 rfl) ?_
  refine lv_if_eq (tgt := 25) hx hb dX1_leastLeftNumber_17 (by decide) (fun c_1 => ?_) (fun c_1 => ?_)
  · have h := h.1 c_1
    refine lv_iconst (v := 1) hx hb dX1_leastLeftNumber_25 (by decide) ?_
    refine lv_goto (tgt := 30) hx hb dX1_leastLeftNumber_26 (by decide) ?_
    exact t_X1_leastLeftNumber_30 C0 hq hw (lv_sub hl [1, 2, 3, 4, 5, 0] rfl) h
  · have h := h.2 c_1
    refine lv_iload_n hx hb dX1_leastLeftNumber_20 rfl (lv_at hl 4 rfl) ?_
    refine lv_iconst (v := 2) hx hb dX1_leastLeftNumber_21 (by decide) ?_
    refine lv_icmp_ne (tgt := 29) hx hb dX1_leastLeftNumber_22 (by decide) (fun c_2 => ?_) (fun c_2 => ?_)
    · have h := h.1 c_2
      refine lv_iconst (v := 0) hx hb dX1_leastLeftNumber_29 (by decide) ?_
      exact t_X1_leastLeftNumber_30 C0 hq hw (lv_sub hl [1, 2, 3, 4, 5, 0] rfl) h
    · have h := h.2 c_2
      refine lv_iconst (v := 1) hx hb dX1_leastLeftNumber_25 (by decide) ?_
      refine lv_goto (tgt := 30) hx hb dX1_leastLeftNumber_26 (by decide) ?_
      exact t_X1_leastLeftNumber_30 C0 hq hw (lv_sub hl [1, 2, 3, 4, 5, 0] rfl) h
set_option maxHeartbeats 4000000 in
set_option maxRecDepth 100000 in
theorem t_X1_leastLeftNumber_0 (C0 : xC p s m args meth c G cX1_leastLeftNumber (some .int) wsX1_leastLeftNumber RX1 11) {q : Nat} (hq : q < 2) {post : Int32 → Prop} {x1 : Int32} {x2 : Int32} {x3 : Int32} {x4 : Int32} {A : xM} {L : xL} {H : Heap} {locs : List Loc} {ls : Array Slot} (hw : xW G s.heap A L H locs) (hl : lv_has ls 11 [(0, .ref (xad G (2 + 6 * q))), (1, .int x1), (2, .int x2), (3, .int x3), (4, .int x4)]) (h : v_X1_leastLeftNumber q x1 x2 x3 x4 A L post) : W p l e rX1_leastLeftNumber s m args below meth c H locs 0 0 (MQ below (xQi G (xpi A L post)) args s 0 0 (xAf G)) (F0 m 0 ls []) := by
  obtain ⟨hx, hb, hr, hts, hown, hml, hlocks, hG⟩ := id C0
  unfold v_X1_leastLeftNumber at h
  refine lv_iload_n hx hb dX1_leastLeftNumber_0 rfl (lv_at hl 2 rfl) ?_
  refine lv_iload_n hx hb dX1_leastLeftNumber_1 rfl (lv_at hl 1 rfl) ?_
  refine lv_iand hx hb dX1_leastLeftNumber_2 ?_
  refine lv_iload_n hx hb dX1_leastLeftNumber_3 rfl (lv_at hl 1 rfl) ?_
  refine lv_ineg hx hb dX1_leastLeftNumber_4 ?_
  refine lv_iand hx hb dX1_leastLeftNumber_5 ?_
  refine lv_if_eq (tgt := 13) hx hb dX1_leastLeftNumber_6 (by decide) (fun c_1 => ?_) (fun c_1 => ?_)
  · have h := h.1 c_1
    refine lv_iconst (v := 0) hx hb dX1_leastLeftNumber_13 (by decide) ?_
    exact t_X1_leastLeftNumber_14 C0 hq hw (lv_sub hl [0, 1, 2, 3, 4] rfl) h
  · have h := h.2 c_1
    refine lv_iconst (v := 1) hx hb dX1_leastLeftNumber_9 (by decide) ?_
    refine lv_goto (tgt := 14) hx hb dX1_leastLeftNumber_10 (by decide) ?_
    exact t_X1_leastLeftNumber_14 C0 hq hw (lv_sub hl [0, 1, 2, 3, 4] rfl) h
theorem c_X1_leastLeftNumber {l : Launch} {G : xGt} {q : Nat} (hq : q < 2) {x1 : Int32} {x2 : Int32} {x3 : Int32} {x4 : Int32} {A : xM} {L : xL} {post : Int32 → Prop} (h : v_X1_leastLeftNumber q x1 x2 x3 x4 A L post) : Met l yX1_leastLeftNumber wsX1_leastLeftNumber rX1_leastLeftNumber (va_Pc [.ref (xad G (2 + 6 * q)), .int x1, .int x2, .int x3, .int x4] (xPre G A L)) (xQi G (xpi A L post)) 0 0 (xAf G) :=
  x_met RX1 rfl (by decide) rfl (Nat.le_of_ble_eq_true rfl) (fun p e s m below meth c ls C0 hw hl => t_X1_leastLeftNumber_0 C0 hq hw hl h)
end MECH
