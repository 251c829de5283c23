def xmc (k : Int32) : Int32 := ((xmk k.toNatClampNeg &&& 255).toUInt32 % 65536).toInt32
section STR
variable {l : Launch} {G : xGt} {A : xM} {L : xL}
theorem x_cret {p : Program} {l : Launch} {e : Env} {R : Room} {s : State} {m : MethodId} {args : Array Value} {below : List Frame} {meth : Method} {c : Code} {H : Heap} {locs : List Loc} {cells slots : Nat} {cc : ByteArray} {pc : Nat} {ls : Array Slot} {G : xGt} {A : xM} {L : xL} (hx : p.tables.exec = Jvm.exec) (hb : c.code = cc) (hr : meth.sig.returnType = some .char) (hlocks : meth.locks = false) (hG : xS G s) (hw : xW G s.heap A L H locs) {post : Int32 → xM → xL → Prop} {v : Int32} (hn : narrow .char (.int v) = .int v) (h : post v A L) (hdg : decode cc pc = .ok (.ireturn, 1)) : W p l e R s m args below meth c H locs cells slots (MQ below (xQi G post) args s cells slots (xAf G)) (F0 m pc ls [.int v]) :=
  W.zret hx hb hr hn (fun t ht hW => ⟨⟨v, (A, L), rfl, h, by rw [ht]; exact hw.1, xS.to hW hw.2 ht hG⟩, hw.2.F ht⟩) hw.2.2.2 hdg hlocks
theorem c_J0_isLatin1 : Met l yJ0_isLatin1_aae02 wsJ0_isLatin1_aae02 { frames := 0, cells := 0, slots := 0, locals := 0 } (va_Pc [.ref (xaK G)] (xPre G A L)) (xQi G (xpi A L (fun r => r = 1))) 0 0 (xAf G) :=
  x_met RJ0 rfl (by decide) rfl (Nat.le_of_ble_eq_true rfl) (fun p e s m below meth c ls C0 hw hl => by
    obtain ⟨hx, hb, hr, hts, hown, hml, hlocks, hG⟩ := id C0
    have hT := hG.2.2.2.2
    have hl : lv_has ls 1 [(0, .ref (xaK G))] := hl
    refine va_gets hx hb hT.2.2.2.2.2.1 hw.2 hown (hts (.fieldLink RJ0 38 "java/lang/String" "COMPACT_STRINGS" "Z") (List.mem_of_getElem? (i := 1) rfl)) (fun _ h9 => h9) dJ0_isLatin1_aae02_0 ?_
    refine lv_if_eq (tgt := 17) hx hb dJ0_isLatin1_aae02_3 (by decide) (fun c_1 => absurd c_1 (by decide)) (fun _ => ?_)
    refine lv_aload_n hx hb dJ0_isLatin1_aae02_6 rfl (lv_at hl 0 rfl) ?_
    refine vk_getf hx hb hT.2.2.1 hw.2 hown (hts (.fieldLink RJ0 15 "java/lang/String" "coder" "B") (List.mem_of_getElem? (i := 2) rfl)) (fun _ h9 => h9) dJ0_isLatin1_aae02_7 ?_
    refine lv_if_ne (tgt := 17) hx hb dJ0_isLatin1_aae02_10 (by decide) (fun c_1 => absurd rfl c_1) (fun _ => ?_)
    refine lv_iconst (v := 1) hx hb dJ0_isLatin1_aae02_13 (by decide) ?_
    refine lv_goto (tgt := 18) hx hb dJ0_isLatin1_aae02_14 (by decide) ?_
    exact x_zret hx hb hr hlocks hG hw (by decide) ⟨rfl, rfl, rfl⟩ dJ0_isLatin1_aae02_18)
theorem c_J3_checkIndex {i n : Int32} {wv : Value} (h0 : ¬ i < 0) (h1 : i < n) (hwv : wv = .null ∨ ∃ t, wv = .ref t) : Met l yJ3_checkIndex_8e157 wsJ3_checkIndex_8e157 { frames := 0, cells := 0, slots := 0, locals := 0 } (va_Pc [.int i, .int n, wv] (xPre G A L)) (xQi G (xpi A L (fun _ => True))) 0 0 (xAf G) := by
  have hc : wv.category = 1 := by rcases hwv with rfl | ⟨t, rfl⟩ <;> rfl
  refine x_met RJ3 rfl (by decide) rfl (by rcases hwv with rfl | ⟨t, rfl⟩ <;> exact Nat.le_of_ble_eq_true rfl) (fun p e s m below meth c ls C0 hw hl => ?_)
  obtain ⟨hx, hb, hr, hts, hown, hml, hlocks, hG⟩ := id C0
  have hl : lv_has ls 3 [(0, .int i), (1, .int n)] := by
    rcases hwv with rfl | ⟨t, rfl⟩ <;> exact lv_sub hl [0, 1] rfl
  refine lv_iload_n hx hb dJ3_checkIndex_8e157_0 rfl (lv_at hl 0 rfl) ?_
  refine lv_if_lt (tgt := 9) hx hb dJ3_checkIndex_8e157_1 (by decide) (fun c_1 => absurd c_1 h0) (fun _ => ?_)
  refine lv_iload_n hx hb dJ3_checkIndex_8e157_4 rfl (lv_at hl 0 rfl) ?_
  refine lv_iload_n hx hb dJ3_checkIndex_8e157_5 rfl (lv_at hl 1 rfl) ?_
  refine lv_icmp_lt (tgt := 16) hx hb dJ3_checkIndex_8e157_6 (by decide) (fun _ => ?_) (fun c_1 => absurd h1 c_1)
  refine lv_iload_n hx hb dJ3_checkIndex_8e157_16 rfl (lv_at hl 0 rfl) ?_
  exact x_iret hx hb hr hlocks hG hw ⟨trivial, rfl, rfl⟩ dJ3_checkIndex_8e157_17
theorem c_J0_checkIndex {i n : Int32} (h0 : ¬ i < 0) (h1 : i < n) : Met l yJ0_checkIndex_df160 wsJ0_checkIndex_df160 { frames := 1, cells := 0, slots := 0, locals := 22 } (va_Pc [.int i, .int n] (xPre G A L)) (xQv G (fun A1 L1 => A1 = A ∧ L1 = L)) 0 0 (xAf G) :=
  x_met RJ0 rfl (by decide) rfl (Nat.le_of_ble_eq_true rfl) (fun p e s m below meth c ls C0 hw hl => by
    obtain ⟨hx, hb, hr, hts, hown, hml, hlocks, hG⟩ := id C0
    have hT := hG.2.2.2.2
    have hl : lv_has ls 2 [(0, .int i), (1, .int n)] := hl
    refine lv_iload_n hx hb dJ0_checkIndex_df160_0 rfl (lv_at hl 0 rfl) ?_
    refine lv_iload_n hx hb dJ0_checkIndex_df160_1 rfl (lv_at hl 1 rfl) ?_
    obtain ⟨wv, hwv, hZ⟩ : ∃ wv : Value, (wv = .null ∨ ∃ t, wv = .ref t) ∧ va_Z "jdk/internal/util/Preconditions" "SIOOBE_FORMATTER" "Ljava/util/function/BiFunction;" wv (xAf G) s s.heap := by
      rcases hT.2.2.2.2.2.2 with h | ⟨t, h⟩
      · exact ⟨_, Or.inl rfl, h⟩
      · exact ⟨_, Or.inr ⟨t, rfl⟩, h⟩
    refine va_gets hx hb hZ hw.2 hown (hts (.fieldLink RJ0 1053 "jdk/internal/util/Preconditions" "SIOOBE_FORMATTER" "Ljava/util/function/BiFunction;") (List.mem_of_getElem? (i := 1) rfl)) (fun _ h9 => h9) dJ0_checkIndex_df160_2 ?_
    refine x_calli hG hw (va_runS (As := [.int i, .int n, wv]) (rest := []) ⟨hx, hb, hml, hown, hts⟩ (c_J3_checkIndex (l := l) (G := G) h0 h1 hwv) (va_cwS 3 hts gJ0_checkIndex_df160_J3_checkIndex_8e157 rfl rfl rfl (by decide +kernel) ⟨Nat.le_of_ble_eq_true rfl, Nat.le_of_ble_eq_true rfl⟩) (x_preS hG hw) rfl rfl hl.1 rfl (lv_room (Nat.le_of_ble_eq_true rfl)) dJ0_checkIndex_df160_5 ⟨Nat.le_of_ble_eq_true rfl, Nat.le_of_ble_eq_true rfl⟩) (fun r A9 L9 H locs hw h => ?_)
    rw [h.2.1, h.2.2] at hw
    refine lv_pop hx hb dJ0_checkIndex_df160_8 rfl ?_
    exact x_vret hx hb hr hlocks hG hw ⟨rfl, rfl⟩ dJ0_checkIndex_df160_9)
theorem c_J1_charAt {i : Int32} (hi : vp_in i 4) : Met l yJ1_charAt_3b067 wsJ1_charAt_3b067 { frames := 2, cells := 0, slots := 0, locals := 43 } (va_Pc [.ref (xaV G), .int i] (xPre G A L)) (xQi G (xpi A L (fun r => r = xmc i))) 0 0 (xAf G) := by
  obtain ⟨j, hj, rfl⟩ := vp_in_of hi (by decide)
  refine x_met RJ1 rfl (by decide) rfl (Nat.le_of_ble_eq_true rfl) (fun p e s m below meth c ls C0 hw hl => ?_)
  obtain ⟨hx, hb, hr, hts, hown, hml, hlocks, hG⟩ := id C0
  have hT := hG.2.2.2.2
  have hl : lv_has ls 2 [(0, .ref (xaV G)), (1, .int (nI j))] := hl
  refine lv_iload_n hx hb dJ1_charAt_3b067_0 rfl (lv_at hl 1 rfl) ?_
  refine lv_aload_n hx hb dJ1_charAt_3b067_1 rfl (lv_at hl 0 rfl) ?_
  refine va_tlen hx hb hT.2.2.2.2.1 hw.2 (v := nI 4) rfl dJ1_charAt_3b067_2 ?_
  refine x_callv hG hw (va_runS (As := [.int (nI j), .int (nI 4)]) (rest := []) ⟨hx, hb, hml, hown, hts⟩ (c_J0_checkIndex (l := l) (G := G) (nI_pos (by omega)) (nI_lt hj (by decide))) (va_cwS 2 hts gJ1_charAt_3b067_J0_checkIndex_df160 rfl rfl rfl (by decide +kernel) ⟨Nat.le_of_ble_eq_true rfl, Nat.le_of_ble_eq_true rfl⟩) (x_preS hG hw) rfl rfl hl.1 rfl (lv_room (Nat.le_of_ble_eq_true rfl)) dJ1_charAt_3b067_3 ⟨Nat.le_of_ble_eq_true rfl, Nat.le_of_ble_eq_true rfl⟩) (fun A9 L9 H locs hw h => ?_)
  rw [h.1, h.2] at hw
  refine lv_aload_n hx hb dJ1_charAt_3b067_6 rfl (lv_at hl 0 rfl) ?_
  refine lv_iload_n hx hb dJ1_charAt_3b067_7 rfl (lv_at hl 1 rfl) ?_
  refine va_tb hx hb hT.2.2.2.2.1 hw.2 hi rfl dJ1_charAt_3b067_8 ?_
  refine lv_sipush (v := 255) hx hb dJ1_charAt_3b067_9 (by decide) ?_
  refine lv_iand hx hb dJ1_charAt_3b067_12 ?_
  refine lv_i2c hx hb dJ1_charAt_3b067_13 rfl ?_
  exact x_cret hx hb hr hlocks hG hw (pk_nc _) ⟨rfl, rfl, rfl⟩ dJ1_charAt_3b067_14
theorem c_J0_charAt {i : Int32} (hi : vp_in i 4) : Met l yJ0_charAt_5068e wsJ0_charAt_5068e { frames := 3, cells := 0, slots := 0, locals := 64 } (va_Pc [.ref (xaK G), .int i] (xPre G A L)) (xQi G (xpi A L (fun r => r = xmc i))) 0 0 (xAf G) := by
  refine x_met RJ0 rfl (by decide) rfl (Nat.le_of_ble_eq_true rfl) (fun p e s m below meth c ls C0 hw hl => ?_)
  obtain ⟨hx, hb, hr, hts, hown, hml, hlocks, hG⟩ := id C0
  have hT := hG.2.2.2.2
  have hl : lv_has ls 2 [(0, .ref (xaK G)), (1, .int i)] := hl
  have hrecv : ∀ {H : Heap} {locs : List Loc}, xW G s.heap A L H locs → ∃ cell : Cell, H[xaK G]? = some cell ∧ cell.vm.isStatics = false ∧ s.vm.findClass RJ0 = some cell.cls := fun hw => by
    obtain ⟨cell, h1, h2, h3, -⟩ := hT.2.1.kept hw.2.2.1
    exact ⟨cell, h1, h2, h3⟩
  refine lv_aload_n hx hb dJ0_charAt_5068e_0 rfl (lv_at hl 0 rfl) ?_
  refine x_calli hG hw (va_runV (As := []) (rest := []) ⟨hx, hb, hml, hown, hts⟩ (c_J0_isLatin1 (l := l) (G := G)) (cwV 0 hts gJ0_charAt_5068e_J0_isLatin1_aae02 rfl rfl rfl (by decide +kernel) ⟨Nat.le_of_ble_eq_true rfl, Nat.le_of_ble_eq_true rfl⟩) ⟨xPre_blind, hrecv hw, fun U hU hW => ⟨rfl, by show va_P _ _ _ U.heap; rw [hU]; exact hw.1, xS.to hW hw.2 hU hG⟩⟩ rfl rfl hl.1 rfl (lv_room (Nat.le_of_ble_eq_true rfl)) dJ0_charAt_5068e_1 ⟨Nat.le_of_ble_eq_true rfl, Nat.le_of_ble_eq_true rfl⟩) (fun r A9 L9 H locs hw h => ?_)
  rw [h.2.1, h.2.2] at hw
  have h := h.1
  dsimp only at h
  subst h
  refine lv_if_eq (tgt := 16) hx hb dJ0_charAt_5068e_4 (by decide) (fun c_1 => absurd c_1 (by decide)) (fun _ => ?_)
  refine lv_aload_n hx hb dJ0_charAt_5068e_7 rfl (lv_at hl 0 rfl) ?_
  refine vk_getf hx hb hT.2.2.2.1 hw.2 hown (hts (.fieldLink RJ0 9 "java/lang/String" "value" "[B") (List.mem_of_getElem? (i := 1) rfl)) (fun _ h9 => h9) dJ0_charAt_5068e_8 ?_
  refine lv_iload_n hx hb dJ0_charAt_5068e_11 rfl (lv_at hl 1 rfl) ?_
  refine x_calli hG hw (va_runS (As := [.ref (xaV G), .int i]) (rest := []) ⟨hx, hb, hml, hown, hts⟩ (c_J1_charAt (l := l) (G := G) hi) (va_cwS 2 hts gJ0_charAt_5068e_J1_charAt_3b067 rfl rfl rfl (by decide +kernel) ⟨Nat.le_of_ble_eq_true rfl, Nat.le_of_ble_eq_true rfl⟩) (x_preS hG hw) rfl rfl hl.1 rfl (lv_room (Nat.le_of_ble_eq_true rfl)) dJ0_charAt_5068e_12 ⟨Nat.le_of_ble_eq_true rfl, Nat.le_of_ble_eq_true rfl⟩) (fun r A9 L9 H locs hw h => ?_)
  rw [h.2.1, h.2.2] at hw
  have h := h.1
  dsimp only at h
  subst h
  exact x_cret hx hb hr hlocks hG hw (pk_nc _) ⟨rfl, rfl, rfl⟩ dJ0_charAt_5068e_15
theorem x_preK {s : State} {H : Heap} {locs : List Loc} {k : Int32} (hG : xS G s) (hw : xW G s.heap A L H locs) : PreV s H RJ0 (xaK G) (va_Pc (.ref (xaK G) :: [.int k]) (xPre G A L)) [.int k] :=
  ⟨xPre_blind, by
    obtain ⟨cell, h1, h2, h3, -⟩ := hG.2.2.2.2.2.1.kept hw.2.2.1
    exact ⟨cell, h1, h2, h3⟩, fun U hU hW => ⟨rfl, by show va_P _ _ _ U.heap; rw [hU]; exact hw.1, xS.to hW hw.2 hU hG⟩⟩
def rW (d : Nat) : Room := { frames := 4 + d, cells := 0, slots := 0, locals := 200 + 27 * d }
theorem rW_f (d : Nat) : 5 ≤ (rW (d + 1)).frames := by show 5 ≤ 4 + (d + 1); omega
theorem rW_l (d : Nat) : 200 ≤ (rW (d + 1)).locals := by show 200 ≤ 200 + 27 * (d + 1); omega
theorem rW_f1 (d : Nat) : (rW d).frames + 1 = (rW (d + 1)).frames := by show 4 + d + 1 = 4 + (d + 1); omega
theorem rW_l1 (d : Nat) : 8 + (8 + 11) + (rW d).locals = (rW (d + 1)).locals := by show 8 + (8 + 11) + (200 + 27 * d) = 200 + 27 * (d + 1); omega
end STR
