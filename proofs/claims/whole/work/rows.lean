section
-- ===== PART A: goes FIRST, ahead of the names: the tables' words, and 'selects' of the private methods out of them =====
/-- a private method of a class that the tables say can be made, by its rows of tables_1 -/
def lw_okq (q : MethodName × Nat) : Prop := (q.1.cls ≠ "java/lang/invoke/MethodHandle" ∧ q.1.cls ≠ "java/lang/invoke/VarHandle") ∧ Cond.instantiable q.1.cls q.2 ∈ tables_1 ∧ Cond.privateMethod q.1 ∈ tables_1 ∧ Cond.instanceMethod q.1 ∈ tables_1
theorem lw_p0 : lw_okq (⟨"SixNumbers", "isNoWholeSet", "(I)Z"⟩, 6) := ⟨⟨by decide +kernel, by decide +kernel⟩, List.mem_of_getElem? (i := 15) (by decide +kernel), List.mem_of_getElem? (i := 214) (by decide +kernel), List.mem_of_getElem? (i := 215) (by decide +kernel)⟩
theorem lw_p1 : lw_okq (⟨"SixNumbers$Heap", "forget", "(I)V"⟩, 8) := ⟨⟨by decide +kernel, by decide +kernel⟩, List.mem_of_getElem? (i := 39) (by decide +kernel), List.mem_of_getElem? (i := 227) (by decide +kernel), List.mem_of_getElem? (i := 228) (by decide +kernel)⟩
theorem lw_p2 : lw_okq (⟨"SixNumbers$Heap", "make", "(I)V"⟩, 8) := ⟨⟨by decide +kernel, by decide +kernel⟩, List.mem_of_getElem? (i := 39) (by decide +kernel), List.mem_of_getElem? (i := 232) (by decide +kernel), List.mem_of_getElem? (i := 233) (by decide +kernel)⟩
theorem lw_p3 : lw_okq (⟨"SixNumbers$Heap", "add", "(IIJI)V"⟩, 8) := ⟨⟨by decide +kernel, by decide +kernel⟩, List.mem_of_getElem? (i := 39) (by decide +kernel), List.mem_of_getElem? (i := 236) (by decide +kernel), List.mem_of_getElem? (i := 237) (by decide +kernel)⟩
theorem lw_p4 : lw_okq (⟨"SixNumbers$Heap", "join", "(III)V"⟩, 8) := ⟨⟨by decide +kernel, by decide +kernel⟩, List.mem_of_getElem? (i := 39) (by decide +kernel), List.mem_of_getElem? (i := 240) (by decide +kernel), List.mem_of_getElem? (i := 241) (by decide +kernel)⟩
theorem lw_p5 : lw_okq (⟨"SixNumbers$Heap", "has", "(II)Z"⟩, 8) := ⟨⟨by decide +kernel, by decide +kernel⟩, List.mem_of_getElem? (i := 39) (by decide +kernel), List.mem_of_getElem? (i := 272) (by decide +kernel), List.mem_of_getElem? (i := 273) (by decide +kernel)⟩
theorem lw_p6 : lw_okq (⟨"SixNumbers", "printWay", "(II)I"⟩, 6) := ⟨⟨by decide +kernel, by decide +kernel⟩, List.mem_of_getElem? (i := 15) (by decide +kernel), List.mem_of_getElem? (i := 320) (by decide +kernel), List.mem_of_getElem? (i := 321) (by decide +kernel)⟩
theorem lw_p7 : lw_okq (⟨"SixNumbers$Box", "countDraw", "(I[I)V"⟩, 6) := ⟨⟨by decide +kernel, by decide +kernel⟩, List.mem_of_getElem? (i := 77) (by decide +kernel), List.mem_of_getElem? (i := 424) (by decide +kernel), List.mem_of_getElem? (i := 425) (by decide +kernel)⟩
theorem lw_p8 : lw_okq (⟨"SixNumbers", "firstSpan", "(II)I"⟩, 6) := ⟨⟨by decide +kernel, by decide +kernel⟩, List.mem_of_getElem? (i := 15) (by decide +kernel), List.mem_of_getElem? (i := 452) (by decide +kernel), List.mem_of_getElem? (i := 453) (by decide +kernel)⟩
theorem lw_p9 : lw_okq (⟨"SixNumbers", "spans", "(II)Z"⟩, 6) := ⟨⟨by decide +kernel, by decide +kernel⟩, List.mem_of_getElem? (i := 15) (by decide +kernel), List.mem_of_getElem? (i := 456) (by decide +kernel), List.mem_of_getElem? (i := 457) (by decide +kernel)⟩
theorem lw_p10 : lw_okq (⟨"SixNumbers$Signs", "walkFrom", "(I)V"⟩, 4) := ⟨⟨by decide +kernel, by decide +kernel⟩, List.mem_of_getElem? (i := 119) (by decide +kernel), List.mem_of_getElem? (i := 475) (by decide +kernel), List.mem_of_getElem? (i := 476) (by decide +kernel)⟩
theorem lw_p11 : lw_okq (⟨"SixNumbers$Signs", "arrive", "(II)V"⟩, 4) := ⟨⟨by decide +kernel, by decide +kernel⟩, List.mem_of_getElem? (i := 119) (by decide +kernel), List.mem_of_getElem? (i := 479) (by decide +kernel), List.mem_of_getElem? (i := 480) (by decide +kernel)⟩
theorem lw_p12 : lw_okq (⟨"SixNumbersModel", "isSet", "(I)Z"⟩, 20) := ⟨⟨by decide +kernel, by decide +kernel⟩, List.mem_of_getElem? (i := 492) (by decide +kernel), List.mem_of_getElem? (i := 593) (by decide +kernel), List.mem_of_getElem? (i := 594) (by decide +kernel)⟩
theorem lw_p13 : lw_okq (⟨"SixNumbersModel", "heap", "()V"⟩, 20) := ⟨⟨by decide +kernel, by decide +kernel⟩, List.mem_of_getElem? (i := 492) (by decide +kernel), List.mem_of_getElem? (i := 598) (by decide +kernel), List.mem_of_getElem? (i := 599) (by decide +kernel)⟩
theorem lw_p14 : lw_okq (⟨"SixNumbersModel", "fill", "()V"⟩, 20) := ⟨⟨by decide +kernel, by decide +kernel⟩, List.mem_of_getElem? (i := 492) (by decide +kernel), List.mem_of_getElem? (i := 602) (by decide +kernel), List.mem_of_getElem? (i := 603) (by decide +kernel)⟩
theorem lw_p15 : lw_okq (⟨"SixNumbersModel", "join", "(II)V"⟩, 20) := ⟨⟨by decide +kernel, by decide +kernel⟩, List.mem_of_getElem? (i := 492) (by decide +kernel), List.mem_of_getElem? (i := 609) (by decide +kernel), List.mem_of_getElem? (i := 610) (by decide +kernel)⟩
def lw_privs_1 : List (MethodName × Nat) := [(⟨"SixNumbers", "isNoWholeSet", "(I)Z"⟩, 6), (⟨"SixNumbers$Heap", "forget", "(I)V"⟩, 8), (⟨"SixNumbers$Heap", "make", "(I)V"⟩, 8), (⟨"SixNumbers$Heap", "add", "(IIJI)V"⟩, 8), (⟨"SixNumbers$Heap", "join", "(III)V"⟩, 8), (⟨"SixNumbers$Heap", "has", "(II)Z"⟩, 8), (⟨"SixNumbers", "printWay", "(II)I"⟩, 6), (⟨"SixNumbers$Box", "countDraw", "(I[I)V"⟩, 6), (⟨"SixNumbers", "firstSpan", "(II)I"⟩, 6), (⟨"SixNumbers", "spans", "(II)Z"⟩, 6), (⟨"SixNumbers$Signs", "walkFrom", "(I)V"⟩, 4), (⟨"SixNumbers$Signs", "arrive", "(II)V"⟩, 4), (⟨"SixNumbersModel", "isSet", "(I)Z"⟩, 20), (⟨"SixNumbersModel", "heap", "()V"⟩, 20), (⟨"SixNumbersModel", "fill", "()V"⟩, 20), (⟨"SixNumbersModel", "join", "(II)V"⟩, 20)]
theorem lw_r1 : ∀ q ∈ lw_privs_1, lw_okq q := List.forall_mem_cons.mpr ⟨lw_p0, List.forall_mem_cons.mpr ⟨lw_p1, List.forall_mem_cons.mpr ⟨lw_p2, List.forall_mem_cons.mpr ⟨lw_p3, List.forall_mem_cons.mpr ⟨lw_p4, List.forall_mem_cons.mpr ⟨lw_p5, List.forall_mem_cons.mpr ⟨lw_p6, List.forall_mem_cons.mpr ⟨lw_p7, List.forall_mem_cons.mpr ⟨lw_p8, List.forall_mem_cons.mpr ⟨lw_p9, List.forall_mem_cons.mpr ⟨lw_p10, List.forall_mem_cons.mpr ⟨lw_p11, List.forall_mem_cons.mpr ⟨lw_p12, List.forall_mem_cons.mpr ⟨lw_p13, List.forall_mem_cons.mpr ⟨lw_p14, List.forall_mem_cons.mpr ⟨lw_p15, fun _ h => absurd h List.not_mem_nil⟩⟩⟩⟩⟩⟩⟩⟩⟩⟩⟩⟩⟩⟩⟩⟩
theorem lw_p16 : lw_okq (⟨"SixNumbersModel", "listOf", "(I[I)I"⟩, 20) := ⟨⟨by decide +kernel, by decide +kernel⟩, List.mem_of_getElem? (i := 492) (by decide +kernel), List.mem_of_getElem? (i := 613) (by decide +kernel), List.mem_of_getElem? (i := 614) (by decide +kernel)⟩
theorem lw_p17 : lw_okq (⟨"SixNumbersModel", "may", "(I)Z"⟩, 20) := ⟨⟨by decide +kernel, by decide +kernel⟩, List.mem_of_getElem? (i := 492) (by decide +kernel), List.mem_of_getElem? (i := 617) (by decide +kernel), List.mem_of_getElem? (i := 618) (by decide +kernel)⟩
theorem lw_p18 : lw_okq (⟨"SixNumbersModel", "add", "(IJJ)V"⟩, 20) := ⟨⟨by decide +kernel, by decide +kernel⟩, List.mem_of_getElem? (i := 492) (by decide +kernel), List.mem_of_getElem? (i := 621) (by decide +kernel), List.mem_of_getElem? (i := 622) (by decide +kernel)⟩
theorem lw_p19 : lw_okq (⟨"SixNumbersModel", "allOf", "(I)J"⟩, 20) := ⟨⟨by decide +kernel, by decide +kernel⟩, List.mem_of_getElem? (i := 492) (by decide +kernel), List.mem_of_getElem? (i := 629) (by decide +kernel), List.mem_of_getElem? (i := 630) (by decide +kernel)⟩
theorem lw_p20 : lw_okq (⟨"SixNumbersModel", "has", "(II)Z"⟩, 20) := ⟨⟨by decide +kernel, by decide +kernel⟩, List.mem_of_getElem? (i := 492) (by decide +kernel), List.mem_of_getElem? (i := 637) (by decide +kernel), List.mem_of_getElem? (i := 638) (by decide +kernel)⟩
theorem lw_p21 : lw_okq (⟨"SixNumbersModel", "isReached", "(I)Z"⟩, 20) := ⟨⟨by decide +kernel, by decide +kernel⟩, List.mem_of_getElem? (i := 492) (by decide +kernel), List.mem_of_getElem? (i := 641) (by decide +kernel), List.mem_of_getElem? (i := 642) (by decide +kernel)⟩
theorem lw_p22 : lw_okq (⟨"SixNumbersModel", "firstSet", "(I)I"⟩, 20) := ⟨⟨by decide +kernel, by decide +kernel⟩, List.mem_of_getElem? (i := 492) (by decide +kernel), List.mem_of_getElem? (i := 658) (by decide +kernel), List.mem_of_getElem? (i := 659) (by decide +kernel)⟩
theorem lw_p23 : lw_okq (⟨"SixNumbersModel", "nearest", "(I)I"⟩, 20) := ⟨⟨by decide +kernel, by decide +kernel⟩, List.mem_of_getElem? (i := 492) (by decide +kernel), List.mem_of_getElem? (i := 662) (by decide +kernel), List.mem_of_getElem? (i := 663) (by decide +kernel)⟩
theorem lw_p24 : lw_okq (⟨"SixNumbersModel", "printed", "(II)I"⟩, 20) := ⟨⟨by decide +kernel, by decide +kernel⟩, List.mem_of_getElem? (i := 492) (by decide +kernel), List.mem_of_getElem? (i := 670) (by decide +kernel), List.mem_of_getElem? (i := 671) (by decide +kernel)⟩
theorem lw_p25 : lw_okq (⟨"SixNumbersModel", "later", "(II)V"⟩, 20) := ⟨⟨by decide +kernel, by decide +kernel⟩, List.mem_of_getElem? (i := 492) (by decide +kernel), List.mem_of_getElem? (i := 674) (by decide +kernel), List.mem_of_getElem? (i := 675) (by decide +kernel)⟩
theorem lw_p26 : lw_okq (⟨"SixNumbersModel", "put", "(I)V"⟩, 20) := ⟨⟨by decide +kernel, by decide +kernel⟩, List.mem_of_getElem? (i := 492) (by decide +kernel), List.mem_of_getElem? (i := 678) (by decide +kernel), List.mem_of_getElem? (i := 679) (by decide +kernel)⟩
theorem lw_p27 : lw_okq (⟨"SixNumbersModel", "putNumber", "(I)V"⟩, 20) := ⟨⟨by decide +kernel, by decide +kernel⟩, List.mem_of_getElem? (i := 492) (by decide +kernel), List.mem_of_getElem? (i := 682) (by decide +kernel), List.mem_of_getElem? (i := 683) (by decide +kernel)⟩
theorem lw_p28 : lw_okq (⟨"SixNumbersModel", "part", "(II)V"⟩, 20) := ⟨⟨by decide +kernel, by decide +kernel⟩, List.mem_of_getElem? (i := 492) (by decide +kernel), List.mem_of_getElem? (i := 686) (by decide +kernel), List.mem_of_getElem? (i := 687) (by decide +kernel)⟩
theorem lw_p29 : lw_okq (⟨"SixNumbersModel", "other", "(III)I"⟩, 20) := ⟨⟨by decide +kernel, by decide +kernel⟩, List.mem_of_getElem? (i := 492) (by decide +kernel), List.mem_of_getElem? (i := 690) (by decide +kernel), List.mem_of_getElem? (i := 691) (by decide +kernel)⟩
theorem lw_p30 : lw_okq (⟨"SixNumbersModel", "drawn", "(I)V"⟩, 20) := ⟨⟨by decide +kernel, by decide +kernel⟩, List.mem_of_getElem? (i := 492) (by decide +kernel), List.mem_of_getElem? (i := 718) (by decide +kernel), List.mem_of_getElem? (i := 719) (by decide +kernel)⟩
theorem lw_p31 : lw_okq (⟨"SixNumbersModel", "spans", "(I)Z"⟩, 20) := ⟨⟨by decide +kernel, by decide +kernel⟩, List.mem_of_getElem? (i := 492) (by decide +kernel), List.mem_of_getElem? (i := 733) (by decide +kernel), List.mem_of_getElem? (i := 734) (by decide +kernel)⟩
def lw_privs_2 : List (MethodName × Nat) := [(⟨"SixNumbersModel", "listOf", "(I[I)I"⟩, 20), (⟨"SixNumbersModel", "may", "(I)Z"⟩, 20), (⟨"SixNumbersModel", "add", "(IJJ)V"⟩, 20), (⟨"SixNumbersModel", "allOf", "(I)J"⟩, 20), (⟨"SixNumbersModel", "has", "(II)Z"⟩, 20), (⟨"SixNumbersModel", "isReached", "(I)Z"⟩, 20), (⟨"SixNumbersModel", "firstSet", "(I)I"⟩, 20), (⟨"SixNumbersModel", "nearest", "(I)I"⟩, 20), (⟨"SixNumbersModel", "printed", "(II)I"⟩, 20), (⟨"SixNumbersModel", "later", "(II)V"⟩, 20), (⟨"SixNumbersModel", "put", "(I)V"⟩, 20), (⟨"SixNumbersModel", "putNumber", "(I)V"⟩, 20), (⟨"SixNumbersModel", "part", "(II)V"⟩, 20), (⟨"SixNumbersModel", "other", "(III)I"⟩, 20), (⟨"SixNumbersModel", "drawn", "(I)V"⟩, 20), (⟨"SixNumbersModel", "spans", "(I)Z"⟩, 20)]
theorem lw_r2 : ∀ q ∈ lw_privs_2, lw_okq q := List.forall_mem_cons.mpr ⟨lw_p16, List.forall_mem_cons.mpr ⟨lw_p17, List.forall_mem_cons.mpr ⟨lw_p18, List.forall_mem_cons.mpr ⟨lw_p19, List.forall_mem_cons.mpr ⟨lw_p20, List.forall_mem_cons.mpr ⟨lw_p21, List.forall_mem_cons.mpr ⟨lw_p22, List.forall_mem_cons.mpr ⟨lw_p23, List.forall_mem_cons.mpr ⟨lw_p24, List.forall_mem_cons.mpr ⟨lw_p25, List.forall_mem_cons.mpr ⟨lw_p26, List.forall_mem_cons.mpr ⟨lw_p27, List.forall_mem_cons.mpr ⟨lw_p28, List.forall_mem_cons.mpr ⟨lw_p29, List.forall_mem_cons.mpr ⟨lw_p30, List.forall_mem_cons.mpr ⟨lw_p31, fun _ h => absurd h List.not_mem_nil⟩⟩⟩⟩⟩⟩⟩⟩⟩⟩⟩⟩⟩⟩⟩⟩
def lw_privs : List (MethodName × Nat) := lw_privs_1 ++ (lw_privs_2)
def lw_tbl : List Cond := k2_sels lw_privs ++ tables_1
theorem lw_privs_ok : ∀ q ∈ lw_privs, lw_okq q := by
  show ∀ q ∈ lw_privs_1 ++ (lw_privs_2), lw_okq q
  exact List.forall_mem_append.mpr ⟨lw_r1, lw_r2⟩
-- ===== end of PART A; then your names; then what follows =====
/-! ===== BEGIN words of one list among another's, by their places ===== -/
theorem goodIn_r {big : List Cond} (ws : List Cond) (ps : List Nat) (hp : ws = ps.filterMap (fun i => big[i]?)) (h : ws.all goodWord = true) : GoodIn big ws := by
  intro w hw
  have h1 := List.all_eq_true.mp h w hw
  rw [hp] at hw
  obtain ⟨i, -, hi⟩ := List.mem_filterMap.mp hw
  have hm : w ∈ big := by first | exact List.mem_of_getElem? hi | exact List.getElem?_mem hi
  exact ⟨hm, good_of_word h1⟩
theorem goodIn_app {big a b : List Cond} (ha : GoodIn big a) (hb : GoodIn big b) : GoodIn big (a ++ b) := fun w h => (List.mem_append.mp h).elim (ha w) (hb w)
theorem goodIn_ca {big a b : List Cond} {c : Cond} (ha : GoodIn big (c :: a)) (hb : GoodIn big b) : GoodIn big (c :: (a ++ b)) := fun w h => (List.mem_cons.mp h).elim (fun e => ha w (List.mem_cons.mpr (Or.inl e))) (fun h => (List.mem_append.mp h).elim (fun h => ha w (List.mem_cons.mpr (Or.inr h))) (hb w))
theorem goodIn_sub {big ws : List Cond} (hm : ∀ w ∈ ws, w ∈ big) (h : ws.all goodWord = true) : GoodIn big ws := fun w hw => ⟨hm w hw, good_of_word (List.all_eq_true.mp h w hw)⟩
/-! ===== END ===== -/
end
section
/-! ===== BEGIN printed: names, fields, word lists, decode rows ===== -/
def RX0 : String := "SixNumbers$Box"
def TX0 : u_T := fun k => match k with
  | 0 => ("SixNumbers$Box", "trial", "LSixNumbers$Heap;", true)
  | 1 => ("SixNumbers$Box", "cards", "[I", true)
  | 2 => ("SixNumbers$Box", "size", "I", false)
  | 3 => ("SixNumbers$Box", "tallies", "[[I", true)
  | 4 => ("SixNumbers$Box", "totals", "[I", true)
  | _ => ("SixNumbers$Box", "counted", "I", false)
def tyX0 : Nat → FieldType := fun k => match k with
  | 0 => .object "SixNumbers$Heap"
  | 1 => .array .int
  | 2 => .int
  | 3 => .array (.array .int)
  | 4 => .array .int
  | _ => .int
abbrev wsX00 : List Cond := u_ws RX0 TX0 6
theorem nmX0 : ∀ a, a < 6 → ∀ b, b < 6 → a ≠ b → (TX0 a).2.1 ≠ (TX0 b).2.1 := by decide +kernel
theorem tyX0_ok : ∀ k, k < 6 → parseFieldDescriptor (TX0 k).2.2.1 = some (tyX0 k) := by decide +kernel
abbrev cX0_init : ByteArray := prog_2_method_1_code
def yX0_init : MethodName := ⟨RX0, "<init>", "(LSixNumbers$Heap;)V"⟩
abbrev cX0_cardAt : ByteArray := prog_2_method_2_code
def yX0_cardAt : MethodName := ⟨RX0, "cardAt", "(I)I"⟩
abbrev cX0_put : ByteArray := prog_2_method_3_code
def yX0_put : MethodName := ⟨RX0, "put", "(I)I"⟩
abbrev cX0_clear : ByteArray := prog_2_method_4_code
def yX0_clear : MethodName := ⟨RX0, "clear", "()I"⟩
abbrev cX0_forgetTallies : ByteArray := prog_2_method_5_code
def yX0_forgetTallies : MethodName := ⟨RX0, "forgetTallies", "()V"⟩
abbrev cX0_drawsOf : ByteArray := prog_2_method_6_code
def yX0_drawsOf : MethodName := ⟨RX0, "drawsOf", "(I)I"⟩
abbrev cX0_drawsReaching : ByteArray := prog_2_method_7_code
def yX0_drawsReaching : MethodName := ⟨RX0, "drawsReaching", "(II)I"⟩
abbrev cX0_countDraws : ByteArray := prog_2_method_8_code
def yX0_countDraws : MethodName := ⟨RX0, "countDraws", "(I)V"⟩
abbrev cX0_countDraw : ByteArray := prog_2_method_9_code
def yX0_countDraw : MethodName := ⟨RX0, "countDraw", "(I[I)V"⟩
def RX1 : String := "SixNumbers$Heap"
def TX1 : u_T := fun k => match k with
  | 0 => ("SixNumbers$Heap", "rules", "LSixNumbers$Rules;", true)
  | 1 => ("SixNumbers$Heap", "items", "[I", true)
  | 2 => ("SixNumbers$Heap", "counts", "[[J", true)
  | 3 => ("SixNumbers$Heap", "found", "[[I", true)
  | 4 => ("SixNumbers$Heap", "founds", "[I", true)
  | 5 => ("SixNumbers$Heap", "holders", "[I", true)
  | 6 => ("SixNumbers$Heap", "size", "I", false)
  | _ => ("SixNumbers$Heap", "changed", "I", false)
def tyX1 : Nat → FieldType := fun k => match k with
  | 0 => .object "SixNumbers$Rules"
  | 1 => .array .int
  | 2 => .array (.array .long)
  | 3 => .array (.array .int)
  | 4 => .array .int
  | 5 => .array .int
  | 6 => .int
  | _ => .int
abbrev wsX10 : List Cond := u_ws RX1 TX1 8
theorem nmX1 : ∀ a, a < 8 → ∀ b, b < 8 → a ≠ b → (TX1 a).2.1 ≠ (TX1 b).2.1 := by decide +kernel
theorem tyX1_ok : ∀ k, k < 8 → parseFieldDescriptor (TX1 k).2.2.1 = some (tyX1 k) := by decide +kernel
abbrev cX1_init : ByteArray := prog_3_method_1_code
def yX1_init : MethodName := ⟨RX1, "<init>", "(LSixNumbers$Rules;I)V"⟩
abbrev cX1_itemAt : ByteArray := prog_3_method_2_code
def yX1_itemAt : MethodName := ⟨RX1, "itemAt", "(I)I"⟩
abbrev cX1_place : ByteArray := prog_3_method_3_code
def yX1_place : MethodName := ⟨RX1, "place", "(II)V"⟩
abbrev cX1_shorten : ByteArray := prog_3_method_4_code
def yX1_shorten : MethodName := ⟨RX1, "shorten", "(I)V"⟩
abbrev cX1_changeEverySet : ByteArray := prog_3_method_5_code
def yX1_changeEverySet : MethodName := ⟨RX1, "changeEverySet", "()V"⟩
abbrev cX1_knows : ByteArray := prog_3_method_6_code
def yX1_knows : MethodName := ⟨RX1, "knows", "(I)Z"⟩
abbrev cX1_refresh : ByteArray := prog_3_method_7_code
def yX1_refresh : MethodName := ⟨RX1, "refresh", "()V"⟩
abbrev cX1_forget : ByteArray := prog_3_method_8_code
def yX1_forget : MethodName := ⟨RX1, "forget", "(I)V"⟩
abbrev cX1_make : ByteArray := prog_3_method_9_code
def yX1_make : MethodName := ⟨RX1, "make", "(I)V"⟩
abbrev cX1_join : ByteArray := prog_3_method_10_code
def yX1_join : MethodName := ⟨RX1, "join", "(III)V"⟩
abbrev cX1_add : ByteArray := prog_3_method_11_code
def yX1_add : MethodName := ⟨RX1, "add", "(IIJI)V"⟩
abbrev cX1_reaches : ByteArray := prog_3_method_12_code
def yX1_reaches : MethodName := ⟨RX1, "reaches", "(I)Z"⟩
abbrev cX1_countOf : ByteArray := prog_3_method_13_code
def yX1_countOf : MethodName := ⟨RX1, "countOf", "(II)J"⟩
abbrev cX1_countOfAllSets : ByteArray := prog_3_method_14_code
def yX1_countOfAllSets : MethodName := ⟨RX1, "countOfAllSets", "(I)J"⟩
abbrev cX1_has : ByteArray := prog_3_method_15_code
def yX1_has : MethodName := ⟨RX1, "has", "(II)Z"⟩
abbrev cX1_numbersOf : ByteArray := prog_3_method_16_code
def yX1_numbersOf : MethodName := ⟨RX1, "numbersOf", "(I)I"⟩
abbrev cX1_numberAt : ByteArray := prog_3_method_17_code
def yX1_numberAt : MethodName := ⟨RX1, "numberAt", "(II)I"⟩
abbrev cX1_leastNotReached : ByteArray := prog_3_method_18_code
def yX1_leastNotReached : MethodName := ⟨RX1, "leastNotReached", "()I"⟩
abbrev cX1_firstSet : ByteArray := prog_3_method_19_code
def yX1_firstSet : MethodName := ⟨RX1, "firstSet", "(I)I"⟩
abbrev cX1_nearest : ByteArray := prog_3_method_20_code
def yX1_nearest : MethodName := ⟨RX1, "nearest", "(I)I"⟩
abbrev cX1_leastLeftNumber : ByteArray := prog_3_method_21_code
def yX1_leastLeftNumber : MethodName := ⟨RX1, "leastLeftNumber", "(IIII)I"⟩
def RX2 : String := "SixNumbers$Out"
def TX2 : u_T := fun k => match k with
  | 0 => ("SixNumbers$Out", "text", "[C", true)
  | _ => ("SixNumbers$Out", "length", "I", false)
def tyX2 : Nat → FieldType := fun k => match k with
  | 0 => .array .char
  | _ => .int
abbrev wsX20 : List Cond := u_ws RX2 TX2 2
theorem nmX2 : ∀ a, a < 2 → ∀ b, b < 2 → a ≠ b → (TX2 a).2.1 ≠ (TX2 b).2.1 := by decide +kernel
theorem tyX2_ok : ∀ k, k < 2 → parseFieldDescriptor (TX2 k).2.2.1 = some (tyX2 k) := by decide +kernel
abbrev cX2_init : ByteArray := prog_4_method_1_code
def yX2_init : MethodName := ⟨RX2, "<init>", "()V"⟩
abbrev cX2_add : ByteArray := prog_4_method_2_code
def yX2_add : MethodName := ⟨RX2, "add", "(C)V"⟩
abbrev cX2_addNumber : ByteArray := prog_4_method_3_code
def yX2_addNumber : MethodName := ⟨RX2, "addNumber", "(I)V"⟩
abbrev cX2_byteAt : ByteArray := prog_4_method_4_code
def yX2_byteAt : MethodName := ⟨RX2, "byteAt", "(I)I"⟩
def RX3 : String := "SixNumbers$Rules"
def TX3 : u_T := fun k => match k with
  | 0 => ("SixNumbers$Rules", "acts", "I", false)
  | _ => ("SixNumbers$Rules", "most", "I", false)
def tyX3 : Nat → FieldType := fun k => match k with
  | 0 => .int
  | _ => .int
abbrev wsX30 : List Cond := u_ws RX3 TX3 2
theorem nmX3 : ∀ a, a < 2 → ∀ b, b < 2 → a ≠ b → (TX3 a).2.1 ≠ (TX3 b).2.1 := by decide +kernel
theorem tyX3_ok : ∀ k, k < 2 → parseFieldDescriptor (TX3 k).2.2.1 = some (tyX3 k) := by decide +kernel
abbrev cX3_init : ByteArray := prog_5_method_1_code
def yX3_init : MethodName := ⟨RX3, "<init>", "()V"⟩
abbrev cX3_allow : ByteArray := prog_5_method_2_code
def yX3_allow : MethodName := ⟨RX3, "allow", "(I)Z"⟩
def RX4 : String := "SixNumbers$Signs"
def TX4 : u_T := fun k => match k with
  | 0 => ("SixNumbers$Signs", "steps", "[I", true)
  | 1 => ("SixNumbers$Signs", "queue", "[I", true)
  | 2 => ("SixNumbers$Signs", "waiting", "I", false)
  | _ => ("SixNumbers$Signs", "from", "I", false)
def tyX4 : Nat → FieldType := fun k => match k with
  | 0 => .array .int
  | 1 => .array .int
  | 2 => .int
  | _ => .int
abbrev wsX40 : List Cond := u_ws RX4 TX4 4
theorem nmX4 : ∀ a, a < 4 → ∀ b, b < 4 → a ≠ b → (TX4 a).2.1 ≠ (TX4 b).2.1 := by decide +kernel
theorem tyX4_ok : ∀ k, k < 4 → parseFieldDescriptor (TX4 k).2.2.1 = some (tyX4 k) := by decide +kernel
abbrev cX4_init : ByteArray := prog_6_method_1_code
def yX4_init : MethodName := ⟨RX4, "<init>", "()V"⟩
abbrev cX4_stepsBetween : ByteArray := prog_6_method_2_code
def yX4_stepsBetween : MethodName := ⟨RX4, "stepsBetween", "(II)I"⟩
abbrev cX4_walkFrom : ByteArray := prog_6_method_3_code
def yX4_walkFrom : MethodName := ⟨RX4, "walkFrom", "(I)V"⟩
abbrev cX4_arrive : ByteArray := prog_6_method_4_code
def yX4_arrive : MethodName := ⟨RX4, "arrive", "(II)V"⟩
abbrev cX4_signed : ByteArray := prog_6_method_5_code
def yX4_signed : MethodName := ⟨RX4, "signed", "(II)I"⟩
abbrev cX4_rootOf : ByteArray := prog_6_method_6_code
def yX4_rootOf : MethodName := ⟨RX4, "rootOf", "(I)I"⟩
abbrev cX4_productTo : ByteArray := prog_6_method_7_code
def yX4_productTo : MethodName := ⟨RX4, "productTo", "(I)I"⟩
def RX5 : String := "SixNumbers"
def TX5 : u_T := fun k => match k with
  | 0 => ("SixNumbers", "rules", "LSixNumbers$Rules;", true)
  | 1 => ("SixNumbers", "heap", "LSixNumbers$Heap;", true)
  | 2 => ("SixNumbers", "trial", "LSixNumbers$Heap;", true)
  | 3 => ("SixNumbers", "box", "LSixNumbers$Box;", true)
  | 4 => ("SixNumbers", "bytes", "LSixNumbers$Out;", true)
  | _ => ("SixNumbers", "chain", "LSixNumbers$Signs;", true)
def tyX5 : Nat → FieldType := fun k => match k with
  | 0 => .object "SixNumbers$Rules"
  | 1 => .object "SixNumbers$Heap"
  | 2 => .object "SixNumbers$Heap"
  | 3 => .object "SixNumbers$Box"
  | 4 => .object "SixNumbers$Out"
  | _ => .object "SixNumbers$Signs"
abbrev wsX50 : List Cond := u_ws RX5 TX5 6
theorem nmX5 : ∀ a, a < 6 → ∀ b, b < 6 → a ≠ b → (TX5 a).2.1 ≠ (TX5 b).2.1 := by decide +kernel
theorem tyX5_ok : ∀ k, k < 6 → parseFieldDescriptor (TX5 k).2.2.1 = some (tyX5 k) := by decide +kernel
abbrev cX5_init : ByteArray := prog_1_method_1_code
def yX5_init : MethodName := ⟨RX5, "<init>", "()V"⟩
abbrev cX5_item : ByteArray := prog_1_method_2_code
def yX5_item : MethodName := ⟨RX5, "item", "(I)I"⟩
abbrev cX5_set : ByteArray := prog_1_method_3_code
def yX5_set : MethodName := ⟨RX5, "set", "(II)I"⟩
abbrev cX5_cut : ByteArray := prog_1_method_4_code
def yX5_cut : MethodName := ⟨RX5, "cut", "(I)I"⟩
abbrev cX5_rule : ByteArray := prog_1_method_5_code
def yX5_rule : MethodName := ⟨RX5, "rule", "(II)I"⟩
abbrev cX5_told : ByteArray := prog_1_method_6_code
def yX5_told : MethodName := ⟨RX5, "told", "(I)I"⟩
abbrev cX5_ways : ByteArray := prog_1_method_7_code
def yX5_ways : MethodName := ⟨RX5, "ways", "(II)J"⟩
abbrev cX5_all : ByteArray := prog_1_method_8_code
def yX5_all : MethodName := ⟨RX5, "all", "(I)J"⟩
abbrev cX5_reached : ByteArray := prog_1_method_9_code
def yX5_reached : MethodName := ⟨RX5, "reached", "(I)I"⟩
abbrev cX5_value : ByteArray := prog_1_method_10_code
def yX5_value : MethodName := ⟨RX5, "value", "(II)I"⟩
abbrev cX5_missing : ByteArray := prog_1_method_11_code
def yX5_missing : MethodName := ⟨RX5, "missing", "()I"⟩
abbrev cX5_aim : ByteArray := prog_1_method_12_code
def yX5_aim : MethodName := ⟨RX5, "aim", "(II)I"⟩
abbrev cX5_print : ByteArray := prog_1_method_13_code
def yX5_print : MethodName := ⟨RX5, "print", "(I)I"⟩
abbrev cX5_printOf : ByteArray := prog_1_method_14_code
def yX5_printOf : MethodName := ⟨RX5, "printOf", "(II)I"⟩
abbrev cX5_out : ByteArray := prog_1_method_15_code
def yX5_out : MethodName := ⟨RX5, "out", "(I)I"⟩
abbrev cX5_card : ByteArray := prog_1_method_16_code
def yX5_card : MethodName := ⟨RX5, "card", "(I)I"⟩
abbrev cX5_empty : ByteArray := prog_1_method_17_code
def yX5_empty : MethodName := ⟨RX5, "empty", "()I"⟩
abbrev cX5_draws : ByteArray := prog_1_method_18_code
def yX5_draws : MethodName := ⟨RX5, "draws", "(III)I"⟩
abbrev cX5_most : ByteArray := prog_1_method_19_code
def yX5_most : MethodName := ⟨RX5, "most", "(II)I"⟩
abbrev cX5_span : ByteArray := prog_1_method_20_code
def yX5_span : MethodName := ⟨RX5, "span", "(III)I"⟩
abbrev cX5_signs : ByteArray := prog_1_method_21_code
def yX5_signs : MethodName := ⟨RX5, "signs", "(II)I"⟩
abbrev cX5_isOutside : ByteArray := prog_1_method_22_code
def yX5_isOutside : MethodName := ⟨RX5, "isOutside", "(III)Z"⟩
abbrev cX5_isNoWholeSet : ByteArray := prog_1_method_23_code
def yX5_isNoWholeSet : MethodName := ⟨RX5, "isNoWholeSet", "(I)Z"⟩
abbrev cX5_printWay : ByteArray := prog_1_method_24_code
def yX5_printWay : MethodName := ⟨RX5, "printWay", "(II)I"⟩
abbrev cX5_writeFirstWay : ByteArray := prog_1_method_25_code
def yX5_writeFirstWay : MethodName := ⟨RX5, "writeFirstWay", "(LSixNumbers$Heap;LSixNumbers$Out;III)V"⟩
abbrev cX5_rightNumber : ByteArray := prog_1_method_26_code
def yX5_rightNumber : MethodName := ⟨RX5, "rightNumber", "(III)I"⟩
abbrev cX5_greatestCommonDivisor : ByteArray := prog_1_method_27_code
def yX5_greatestCommonDivisor : MethodName := ⟨RX5, "greatestCommonDivisor", "(II)I"⟩
abbrev cX5_firstSpan : ByteArray := prog_1_method_28_code
def yX5_firstSpan : MethodName := ⟨RX5, "firstSpan", "(II)I"⟩
abbrev cX5_spans : ByteArray := prog_1_method_29_code
def yX5_spans : MethodName := ⟨RX5, "spans", "(II)Z"⟩
abbrev cX5_isInSpan : ByteArray := prog_1_method_30_code
def yX5_isInSpan : MethodName := ⟨RX5, "isInSpan", "(II)Z"⟩
abbrev cX5_spanNumber : ByteArray := prog_1_method_31_code
def yX5_spanNumber : MethodName := ⟨RX5, "spanNumber", "(II)I"⟩
def RX6 : String := "SixNumbersModel"
def TX6 : u_T := fun k => match k with
  | 0 => ("SixNumbersModel", "items", "I", false)
  | 1 => ("SixNumbersModel", "numbers", "[I", true)
  | 2 => ("SixNumbersModel", "acts", "I", false)
  | 3 => ("SixNumbersModel", "most", "I", false)
  | 4 => ("SixNumbersModel", "cards", "I", false)
  | 5 => ("SixNumbersModel", "box", "[I", true)
  | 6 => ("SixNumbersModel", "out", "[I", true)
  | 7 => ("SixNumbersModel", "outSize", "I", false)
  | 8 => ("SixNumbersModel", "work", "[I", true)
  | 9 => ("SixNumbersModel", "works", "I", false)
  | 10 => ("SixNumbersModel", "ways", "[J", true)
  | 11 => ("SixNumbersModel", "lefts", "[I", true)
  | 12 => ("SixNumbersModel", "rights", "[I", true)
  | 13 => ("SixNumbersModel", "isHeap", "Z", false)
  | 14 => ("SixNumbersModel", "todoSet", "[I", true)
  | 15 => ("SixNumbersModel", "todoValue", "[I", true)
  | 16 => ("SixNumbersModel", "todos", "I", false)
  | 17 => ("SixNumbersModel", "counts", "[I", true)
  | 18 => ("SixNumbersModel", "far", "[I", true)
  | _ => ("SixNumbersModel", "line", "[I", true)
def tyX6 : Nat → FieldType := fun k => match k with
  | 0 => .int
  | 1 => .array .int
  | 2 => .int
  | 3 => .int
  | 4 => .int
  | 5 => .array .int
  | 6 => .array .int
  | 7 => .int
  | 8 => .array .int
  | 9 => .int
  | 10 => .array .long
  | 11 => .array .int
  | 12 => .array .int
  | 13 => .boolean
  | 14 => .array .int
  | 15 => .array .int
  | 16 => .int
  | 17 => .array .int
  | 18 => .array .int
  | _ => .array .int
abbrev wsX60 : List Cond := u_ws RX6 TX6 20
theorem nmX6 : ∀ a, a < 20 → ∀ b, b < 20 → a ≠ b → (TX6 a).2.1 ≠ (TX6 b).2.1 := by decide +kernel
theorem tyX6_ok : ∀ k, k < 20 → parseFieldDescriptor (TX6 k).2.2.1 = some (tyX6 k) := by decide +kernel
abbrev cX6_init : ByteArray := prog_8_method_1_code
def yX6_init : MethodName := ⟨RX6, "<init>", "()V"⟩
abbrev cX6_in : ByteArray := prog_8_method_3_code
def yX6_in : MethodName := ⟨RX6, "in", "(JJJ)Z"⟩
abbrev cX6_bits : ByteArray := prog_8_method_4_code
def yX6_bits : MethodName := ⟨RX6, "bits", "(I)I"⟩
abbrev cX6_item : ByteArray := prog_8_method_5_code
def yX6_item : MethodName := ⟨RX6, "item", "(I)I"⟩
abbrev cX6_set : ByteArray := prog_8_method_6_code
def yX6_set : MethodName := ⟨RX6, "set", "(II)I"⟩
abbrev cX6_cut : ByteArray := prog_8_method_7_code
def yX6_cut : MethodName := ⟨RX6, "cut", "(I)I"⟩
abbrev cX6_rule : ByteArray := prog_8_method_8_code
def yX6_rule : MethodName := ⟨RX6, "rule", "(II)I"⟩
abbrev cX6_told : ByteArray := prog_8_method_9_code
def yX6_told : MethodName := ⟨RX6, "told", "(I)I"⟩
abbrev cX6_may : ByteArray := prog_8_method_10_code
def yX6_may : MethodName := ⟨RX6, "may", "(I)Z"⟩
abbrev cX6_listOf : ByteArray := prog_8_method_11_code
def yX6_listOf : MethodName := ⟨RX6, "listOf", "(I[I)I"⟩
abbrev cX6_add : ByteArray := prog_8_method_12_code
def yX6_add : MethodName := ⟨RX6, "add", "(IJJ)V"⟩
abbrev cX6_join : ByteArray := prog_8_method_13_code
def yX6_join : MethodName := ⟨RX6, "join", "(II)V"⟩
abbrev cX6_fill : ByteArray := prog_8_method_14_code
def yX6_fill : MethodName := ⟨RX6, "fill", "()V"⟩
abbrev cX6_heap : ByteArray := prog_8_method_15_code
def yX6_heap : MethodName := ⟨RX6, "heap", "()V"⟩
abbrev cX6_isSet : ByteArray := prog_8_method_16_code
def yX6_isSet : MethodName := ⟨RX6, "isSet", "(I)Z"⟩
abbrev cX6_allOf : ByteArray := prog_8_method_17_code
def yX6_allOf : MethodName := ⟨RX6, "allOf", "(I)J"⟩
abbrev cX6_isReached : ByteArray := prog_8_method_18_code
def yX6_isReached : MethodName := ⟨RX6, "isReached", "(I)Z"⟩
abbrev cX6_ways : ByteArray := prog_8_method_19_code
def yX6_ways : MethodName := ⟨RX6, "ways", "(II)J"⟩
abbrev cX6_all : ByteArray := prog_8_method_20_code
def yX6_all : MethodName := ⟨RX6, "all", "(I)J"⟩
abbrev cX6_has : ByteArray := prog_8_method_21_code
def yX6_has : MethodName := ⟨RX6, "has", "(II)Z"⟩
abbrev cX6_reached : ByteArray := prog_8_method_22_code
def yX6_reached : MethodName := ⟨RX6, "reached", "(I)I"⟩
abbrev cX6_value : ByteArray := prog_8_method_23_code
def yX6_value : MethodName := ⟨RX6, "value", "(II)I"⟩
abbrev cX6_missing : ByteArray := prog_8_method_24_code
def yX6_missing : MethodName := ⟨RX6, "missing", "()I"⟩
abbrev cX6_firstSet : ByteArray := prog_8_method_25_code
def yX6_firstSet : MethodName := ⟨RX6, "firstSet", "(I)I"⟩
abbrev cX6_nearest : ByteArray := prog_8_method_26_code
def yX6_nearest : MethodName := ⟨RX6, "nearest", "(I)I"⟩
abbrev cX6_aim : ByteArray := prog_8_method_27_code
def yX6_aim : MethodName := ⟨RX6, "aim", "(II)I"⟩
abbrev cX6_later : ByteArray := prog_8_method_28_code
def yX6_later : MethodName := ⟨RX6, "later", "(II)V"⟩
abbrev cX6_put : ByteArray := prog_8_method_29_code
def yX6_put : MethodName := ⟨RX6, "put", "(I)V"⟩
abbrev cX6_putNumber : ByteArray := prog_8_method_30_code
def yX6_putNumber : MethodName := ⟨RX6, "putNumber", "(I)V"⟩
abbrev cX6_other : ByteArray := prog_8_method_31_code
def yX6_other : MethodName := ⟨RX6, "other", "(III)I"⟩
abbrev cX6_signOf : ByteArray := prog_8_method_32_code
def yX6_signOf : MethodName := ⟨RX6, "signOf", "(I)I"⟩
abbrev cX6_part : ByteArray := prog_8_method_33_code
def yX6_part : MethodName := ⟨RX6, "part", "(II)V"⟩
abbrev cX6_printed : ByteArray := prog_8_method_34_code
def yX6_printed : MethodName := ⟨RX6, "printed", "(II)I"⟩
abbrev cX6_print : ByteArray := prog_8_method_35_code
def yX6_print : MethodName := ⟨RX6, "print", "(I)I"⟩
abbrev cX6_printOf : ByteArray := prog_8_method_36_code
def yX6_printOf : MethodName := ⟨RX6, "printOf", "(II)I"⟩
abbrev cX6_out : ByteArray := prog_8_method_37_code
def yX6_out : MethodName := ⟨RX6, "out", "(I)I"⟩
abbrev cX6_card : ByteArray := prog_8_method_38_code
def yX6_card : MethodName := ⟨RX6, "card", "(I)I"⟩
abbrev cX6_empty : ByteArray := prog_8_method_39_code
def yX6_empty : MethodName := ⟨RX6, "empty", "()I"⟩
abbrev cX6_drawn : ByteArray := prog_8_method_40_code
def yX6_drawn : MethodName := ⟨RX6, "drawn", "(I)V"⟩
abbrev cX6_common : ByteArray := prog_8_method_41_code
def yX6_common : MethodName := ⟨RX6, "common", "(II)I"⟩
abbrev cX6_draws : ByteArray := prog_8_method_42_code
def yX6_draws : MethodName := ⟨RX6, "draws", "(III)I"⟩
abbrev cX6_most : ByteArray := prog_8_method_43_code
def yX6_most : MethodName := ⟨RX6, "most", "(II)I"⟩
abbrev cX6_spans : ByteArray := prog_8_method_44_code
def yX6_spans : MethodName := ⟨RX6, "spans", "(I)Z"⟩
abbrev cX6_span : ByteArray := prog_8_method_45_code
def yX6_span : MethodName := ⟨RX6, "span", "(III)I"⟩
abbrev cX6_root : ByteArray := prog_8_method_46_code
def yX6_root : MethodName := ⟨RX6, "root", "(I)I"⟩
abbrev cX6_signed : ByteArray := prog_8_method_47_code
def yX6_signed : MethodName := ⟨RX6, "signed", "(II)I"⟩
abbrev cX6_signs : ByteArray := prog_8_method_48_code
def yX6_signs : MethodName := ⟨RX6, "signs", "(II)I"⟩
def RJ6 : String := "java/lang/Integer"
def TJ6 : u_T := fun k => match k with
  | _ => ("", "", "", false)
def tyJ6 : Nat → FieldType := fun k => match k with
  | _ => .int
abbrev wsJ60 : List Cond := u_ws RJ6 TJ6 0
theorem nmJ6 : ∀ a, a < 0 → ∀ b, b < 0 → a ≠ b → (TJ6 a).2.1 ≠ (TJ6 b).2.1 := by decide +kernel
theorem tyJ6_ok : ∀ k, k < 0 → parseFieldDescriptor (TJ6 k).2.2.1 = some (tyJ6 k) := by decide +kernel
abbrev cJ6_bitCount_0f7a4 : ByteArray := prog_9_method_49_code
def yJ6_bitCount_0f7a4 : MethodName := ⟨RJ6, "bitCount", "(I)I"⟩
def RJ9 : String := "java/lang/Math"
def TJ9 : u_T := fun k => match k with
  | _ => ("", "", "", false)
def tyJ9 : Nat → FieldType := fun k => match k with
  | _ => .int
abbrev wsJ90 : List Cond := u_ws RJ9 TJ9 0
theorem nmJ9 : ∀ a, a < 0 → ∀ b, b < 0 → a ≠ b → (TJ9 a).2.1 ≠ (TJ9 b).2.1 := by decide +kernel
theorem tyJ9_ok : ∀ k, k < 0 → parseFieldDescriptor (TJ9 k).2.2.1 = some (tyJ9 k) := by decide +kernel
abbrev cJ9_abs_0f7a4 : ByteArray := prog_10_method_59_code
def yJ9_abs_0f7a4 : MethodName := ⟨RJ9, "abs", "(I)I"⟩
abbrev cJ9_max_7cf53 : ByteArray := prog_10_method_65_code
def yJ9_max_7cf53 : MethodName := ⟨RJ9, "max", "(II)I"⟩
abbrev cJ9_min_7cf53 : ByteArray := prog_10_method_69_code
def yJ9_min_7cf53 : MethodName := ⟨RJ9, "min", "(II)I"⟩
def RJ0 : String := "java/lang/String"
def TJ0 : u_T := fun k => match k with
  | _ => ("", "", "", false)
def tyJ0 : Nat → FieldType := fun k => match k with
  | _ => .int
abbrev wsJ00 : List Cond := u_ws RJ0 TJ0 0
theorem nmJ0 : ∀ a, a < 0 → ∀ b, b < 0 → a ≠ b → (TJ0 a).2.1 ≠ (TJ0 b).2.1 := by decide +kernel
theorem tyJ0_ok : ∀ k, k < 0 → parseFieldDescriptor (TJ0 k).2.2.1 = some (tyJ0 k) := by decide +kernel
abbrev cJ0_charAt_5068e : ByteArray := prog_11_method_56_code
def yJ0_charAt_5068e : MethodName := ⟨RJ0, "charAt", "(I)C"⟩
abbrev cJ0_isLatin1_aae02 : ByteArray := prog_11_method_154_code
def yJ0_isLatin1_aae02 : MethodName := ⟨RJ0, "isLatin1", "()Z"⟩
abbrev cJ0_checkIndex_df160 : ByteArray := prog_11_method_155_code
def yJ0_checkIndex_df160 : MethodName := ⟨RJ0, "checkIndex", "(II)V"⟩
def RJ1 : String := "java/lang/StringLatin1"
def TJ1 : u_T := fun k => match k with
  | _ => ("", "", "", false)
def tyJ1 : Nat → FieldType := fun k => match k with
  | _ => .int
abbrev wsJ10 : List Cond := u_ws RJ1 TJ1 0
theorem nmJ1 : ∀ a, a < 0 → ∀ b, b < 0 → a ≠ b → (TJ1 a).2.1 ≠ (TJ1 b).2.1 := by decide +kernel
theorem tyJ1_ok : ∀ k, k < 0 → parseFieldDescriptor (TJ1 k).2.2.1 = some (tyJ1 k) := by decide +kernel
abbrev cJ1_charAt_3b067 : ByteArray := prog_12_method_2_code
def yJ1_charAt_3b067 : MethodName := ⟨RJ1, "charAt", "([BI)C"⟩
def RJ2 : String := "java/lang/StringUTF16"
def TJ2 : u_T := fun k => match k with
  | _ => ("", "", "", false)
def tyJ2 : Nat → FieldType := fun k => match k with
  | _ => .int
abbrev wsJ20 : List Cond := u_ws RJ2 TJ2 0
theorem nmJ2 : ∀ a, a < 0 → ∀ b, b < 0 → a ≠ b → (TJ2 a).2.1 ≠ (TJ2 b).2.1 := by decide +kernel
theorem tyJ2_ok : ∀ k, k < 0 → parseFieldDescriptor (TJ2 k).2.2.1 = some (tyJ2 k) := by decide +kernel
abbrev cJ2_getChar_3b067 : ByteArray := prog_13_method_5_code
def yJ2_getChar_3b067 : MethodName := ⟨RJ2, "getChar", "([BI)C"⟩
abbrev cJ2_length_9d52b : ByteArray := prog_13_method_6_code
def yJ2_length_9d52b : MethodName := ⟨RJ2, "length", "([B)I"⟩
abbrev cJ2_charAt_3b067 : ByteArray := prog_13_method_83_code
def yJ2_charAt_3b067 : MethodName := ⟨RJ2, "charAt", "([BI)C"⟩
abbrev cJ2_checkIndex_2214a : ByteArray := prog_13_method_91_code
def yJ2_checkIndex_2214a : MethodName := ⟨RJ2, "checkIndex", "(I[B)V"⟩
def RJ3 : String := "jdk/internal/util/Preconditions"
def TJ3 : u_T := fun k => match k with
  | _ => ("", "", "", false)
def tyJ3 : Nat → FieldType := fun k => match k with
  | _ => .int
abbrev wsJ30 : List Cond := u_ws RJ3 TJ3 0
theorem nmJ3 : ∀ a, a < 0 → ∀ b, b < 0 → a ≠ b → (TJ3 a).2.1 ≠ (TJ3 b).2.1 := by decide +kernel
theorem tyJ3_ok : ∀ k, k < 0 → parseFieldDescriptor (TJ3 k).2.2.1 = some (tyJ3 k) := by decide +kernel
abbrev cJ3_checkIndex_8e157 : ByteArray := prog_14_method_11_code
def yJ3_checkIndex_8e157 : MethodName := ⟨RJ3, "checkIndex", "(IILjava/util/function/BiFunction;)I"⟩
def RL : String := "SixNumbersLaw"
abbrev cL_law : ByteArray := code
def yL_law : MethodName := ⟨RL, "law", "([I)Z"⟩
def wsX0_init : List Cond := .code yX0_init cX0_init 2 none :: ([.methodLink RX0 3 objectInit, .instanceMethod objectInit, .code objectInit ⟨#[0xb1]⟩ 1 none, .arrayClass .int, .fieldLink RX0 9 "SixNumbers$Box" "cards" "[I", .fieldLink RX0 15 "SixNumbers$Box" "size" "I", .classLink RX0 19 "[[I", .fieldLink RX0 21 "SixNumbers$Box" "tallies" "[[I", .fieldLink RX0 24 "SixNumbers$Box" "totals" "[I", .fieldLink RX0 27 "SixNumbers$Box" "counted" "I", .fieldLink RX0 30 "SixNumbers$Box" "trial" "LSixNumbers$Heap;"] ++ wsX00)
def wsX0_cardAt : List Cond := .code yX0_cardAt cX0_cardAt 2 (some .int) :: ([.fieldLink RX0 15 "SixNumbers$Box" "size" "I", .fieldLink RX0 9 "SixNumbers$Box" "cards" "[I"] ++ wsX00)
def wsX0_forgetTallies : List Cond := .code yX0_forgetTallies cX0_forgetTallies 1 none :: ([.fieldLink RX0 27 "SixNumbers$Box" "counted" "I"] ++ wsX00)
def wsX0_put : List Cond := .code yX0_put cX0_put 3 (some .int) :: ([.fieldLink RX0 15 "SixNumbers$Box" "size" "I", .fieldLink RX0 9 "SixNumbers$Box" "cards" "[I", .methodLink RX0 34 yX0_forgetTallies, .instanceMethod yX0_forgetTallies, .selects RX0 yX0_forgetTallies yX0_forgetTallies, .initialized RX0, .code yX0_forgetTallies cX0_forgetTallies 1 none, .fieldLink RX0 27 "SixNumbers$Box" "counted" "I"] ++ wsX00)
def wsX0_clear : List Cond := .code yX0_clear cX0_clear 2 (some .int) :: ([.fieldLink RX0 15 "SixNumbers$Box" "size" "I", .methodLink RX0 34 yX0_forgetTallies, .instanceMethod yX0_forgetTallies, .selects RX0 yX0_forgetTallies yX0_forgetTallies, .initialized RX0, .code yX0_forgetTallies cX0_forgetTallies 1 none, .fieldLink RX0 27 "SixNumbers$Box" "counted" "I"] ++ wsX00)
def wsX0_drawsOf : List Cond := .code yX0_drawsOf cX0_drawsOf 2 (some .int) :: ([.fieldLink RX0 24 "SixNumbers$Box" "totals" "[I"] ++ wsX00)
def wsX0_drawsReaching : List Cond := .code yX0_drawsReaching cX0_drawsReaching 3 (some .int) :: ([.fieldLink RX0 21 "SixNumbers$Box" "tallies" "[[I"] ++ wsX00)
def wsJ6_bitCount_0f7a4 : List Cond := .code yJ6_bitCount_0f7a4 cJ6_bitCount_0f7a4 1 (some .int) :: ([.constant RJ6 265 (1431655765), .constant RJ6 266 (858993459), .constant RJ6 267 (252645135)])
def wsX1_place : List Cond := .code yX1_place cX1_place 3 none :: ([.fieldLink RX1 9 "SixNumbers$Heap" "size" "I", .fieldLink RX1 22 "SixNumbers$Heap" "items" "[I", .methodLink RX1 42 Lib.Math.max.name, .static Lib.Math.max.name, .initialized "java/lang/Math", .code Lib.Math.max.name Lib.Math.max.code 2 (some .int), .fieldLink RX1 15 "SixNumbers$Heap" "changed" "I"] ++ wsX10)
def wsX1_shorten : List Cond := .code yX1_shorten cX1_shorten 3 none :: ([.fieldLink RX1 9 "SixNumbers$Heap" "size" "I", .fieldLink RX1 15 "SixNumbers$Heap" "changed" "I", .methodLink RX1 48 Lib.Math.min.name, .static Lib.Math.min.name, .initialized "java/lang/Math", .code Lib.Math.min.name Lib.Math.min.code 2 (some .int)] ++ wsX10)
def wsX1_forget : List Cond := .code yX1_forget cX1_forget 4 none :: ([.fieldLink RX1 36 "SixNumbers$Heap" "founds" "[I", .fieldLink RX1 33 "SixNumbers$Heap" "found" "[[I", .fieldLink RX1 28 "SixNumbers$Heap" "counts" "[[J", .fieldLink RX1 39 "SixNumbers$Heap" "holders" "[I"] ++ wsX10)
def wsX1_knows : List Cond := .code yX1_knows cX1_knows 2 (some .boolean) :: ([.fieldLink RX1 9 "SixNumbers$Heap" "size" "I"] ++ wsX10)
def wsX1_add : List Cond := .code yX1_add cX1_add 6 none :: ([.fieldLink RX1 28 "SixNumbers$Heap" "counts" "[[J", .fieldLink RX1 36 "SixNumbers$Heap" "founds" "[I", .fieldLink RX1 33 "SixNumbers$Heap" "found" "[[I", .fieldLink RX1 39 "SixNumbers$Heap" "holders" "[I"] ++ wsX10)
def wsX3_allow : List Cond := .code yX3_allow cX3_allow 2 (some .boolean) :: ([.fieldLink RX3 9 "SixNumbers$Rules" "acts" "I"] ++ wsX30)
def wsX1_join : List Cond := .code yX1_join cX1_join 14 none :: ([.fieldLink RX1 18 "SixNumbers$Heap" "rules" "LSixNumbers$Rules;", .fieldLink RX1 36 "SixNumbers$Heap" "founds" "[I", .fieldLink RX1 33 "SixNumbers$Heap" "found" "[[I", .fieldLink RX1 28 "SixNumbers$Heap" "counts" "[[J", .methodLink RX1 78 Lib.Math.abs.name, .static Lib.Math.abs.name, .initialized "java/lang/Math", .code Lib.Math.abs.name Lib.Math.abs.code 1 (some .int), .methodLink RX1 70 yX3_allow, .instanceMethod yX3_allow, .selects RX3 yX3_allow yX3_allow, .initialized RX3, .code yX3_allow cX3_allow 2 (some .boolean), .fieldLink RX3 9 "SixNumbers$Rules" "acts" "I", .methodLink RX1 62 yX1_add, .instanceMethod yX1_add, .selects RX1 yX1_add yX1_add, .initialized RX1, .code yX1_add cX1_add 6 none, .fieldLink RX1 39 "SixNumbers$Heap" "holders" "[I"] ++ wsX10 ++ wsX30)
def wsX1_make_r1 : List Cond := [Cond.fieldLink RX1 22 "SixNumbers$Heap" "items" "[I", Cond.methodLink RX1 62 yX1_add, Cond.instanceMethod yX1_add, Cond.selects RX1 yX1_add yX1_add, Cond.initialized RX1, Cond.code yX1_add cX1_add 6 none, Cond.fieldLink RX1 28 "SixNumbers$Heap" "counts" "[[J", Cond.fieldLink RX1 36 "SixNumbers$Heap" "founds" "[I", Cond.fieldLink RX1 33 "SixNumbers$Heap" "found" "[[I", Cond.fieldLink RX1 39 "SixNumbers$Heap" "holders" "[I", Cond.methodLink RX1 66 yX1_join, Cond.instanceMethod yX1_join, Cond.selects RX1 yX1_join yX1_join, Cond.code yX1_join cX1_join 14 none, Cond.fieldLink RX1 18 "SixNumbers$Heap" "rules" "LSixNumbers$Rules;", Cond.methodLink RX1 78 Lib.Math.abs.name, Cond.static Lib.Math.abs.name, Cond.initialized "java/lang/Math", Cond.code Lib.Math.abs.name Lib.Math.abs.code 1 (some .int), Cond.methodLink RX1 70 yX3_allow, Cond.instanceMethod yX3_allow, Cond.selects RX3 yX3_allow yX3_allow, Cond.initialized RX3, Cond.code yX3_allow cX3_allow 2 (some .boolean)]
def wsX1_make_r2 : List Cond := [Cond.fieldLink RX3 9 "SixNumbers$Rules" "acts" "I"]
def wsX1_make : List Cond := .code yX1_make cX1_make 4 none :: ((wsX1_make_r1 ++ wsX1_make_r2) ++ wsX10 ++ wsX30)
def wsX1_refresh_r1 : List Cond := [Cond.fieldLink RX1 15 "SixNumbers$Heap" "changed" "I", Cond.fieldLink RX1 36 "SixNumbers$Heap" "founds" "[I", Cond.methodLink RX1 51 yX1_forget, Cond.instanceMethod yX1_forget, Cond.selects RX1 yX1_forget yX1_forget, Cond.initialized RX1, Cond.code yX1_forget cX1_forget 4 none, Cond.fieldLink RX1 33 "SixNumbers$Heap" "found" "[[I", Cond.fieldLink RX1 28 "SixNumbers$Heap" "counts" "[[J", Cond.fieldLink RX1 39 "SixNumbers$Heap" "holders" "[I", Cond.methodLink RX1 55 yX1_knows, Cond.instanceMethod yX1_knows, Cond.selects RX1 yX1_knows yX1_knows, Cond.code yX1_knows cX1_knows 2 (some .boolean), Cond.fieldLink RX1 9 "SixNumbers$Heap" "size" "I", Cond.methodLink RX1 59 yX1_make, Cond.instanceMethod yX1_make, Cond.selects RX1 yX1_make yX1_make, Cond.code yX1_make cX1_make 4 none, Cond.fieldLink RX1 22 "SixNumbers$Heap" "items" "[I", Cond.methodLink RX1 62 yX1_add, Cond.instanceMethod yX1_add, Cond.selects RX1 yX1_add yX1_add, Cond.code yX1_add cX1_add 6 none]
def wsX1_refresh_r2 : List Cond := [Cond.methodLink RX1 66 yX1_join, Cond.instanceMethod yX1_join, Cond.selects RX1 yX1_join yX1_join, Cond.code yX1_join cX1_join 14 none, Cond.fieldLink RX1 18 "SixNumbers$Heap" "rules" "LSixNumbers$Rules;", Cond.methodLink RX1 78 Lib.Math.abs.name, Cond.static Lib.Math.abs.name, Cond.initialized "java/lang/Math", Cond.code Lib.Math.abs.name Lib.Math.abs.code 1 (some .int), Cond.methodLink RX1 70 yX3_allow, Cond.instanceMethod yX3_allow, Cond.selects RX3 yX3_allow yX3_allow, Cond.initialized RX3, Cond.code yX3_allow cX3_allow 2 (some .boolean), Cond.fieldLink RX3 9 "SixNumbers$Rules" "acts" "I"]
def wsX1_refresh : List Cond := .code yX1_refresh cX1_refresh 2 none :: ((wsX1_refresh_r1 ++ wsX1_refresh_r2) ++ wsX10 ++ wsX30)
def wsX1_reaches : List Cond := .code yX1_reaches cX1_reaches 2 (some .boolean) :: ([.fieldLink RX1 39 "SixNumbers$Heap" "holders" "[I"] ++ wsX10)
def wsX0_countDraw_r1 : List Cond := [Cond.fieldLink RX0 15 "SixNumbers$Box" "size" "I", Cond.fieldLink RX0 30 "SixNumbers$Box" "trial" "LSixNumbers$Heap;", Cond.fieldLink RX0 9 "SixNumbers$Box" "cards" "[I", Cond.methodLink RX0 47 yX1_place, Cond.instanceMethod yX1_place, Cond.selects RX1 yX1_place yX1_place, Cond.initialized RX1, Cond.code yX1_place cX1_place 3 none, Cond.fieldLink RX1 9 "SixNumbers$Heap" "size" "I", Cond.fieldLink RX1 22 "SixNumbers$Heap" "items" "[I", Cond.methodLink RX1 42 Lib.Math.max.name, Cond.static Lib.Math.max.name, Cond.initialized "java/lang/Math", Cond.code Lib.Math.max.name Lib.Math.max.code 2 (some .int), Cond.fieldLink RX1 15 "SixNumbers$Heap" "changed" "I", Cond.methodLink RX0 53 yX1_shorten, Cond.instanceMethod yX1_shorten, Cond.selects RX1 yX1_shorten yX1_shorten, Cond.code yX1_shorten cX1_shorten 3 none, Cond.methodLink RX1 48 Lib.Math.min.name, Cond.static Lib.Math.min.name, Cond.code Lib.Math.min.name Lib.Math.min.code 2 (some .int), Cond.methodLink RX0 57 yX1_refresh, Cond.instanceMethod yX1_refresh]
def wsX0_countDraw_r2 : List Cond := [Cond.selects RX1 yX1_refresh yX1_refresh, Cond.code yX1_refresh cX1_refresh 2 none, Cond.fieldLink RX1 36 "SixNumbers$Heap" "founds" "[I", Cond.methodLink RX1 51 yX1_forget, Cond.instanceMethod yX1_forget, Cond.selects RX1 yX1_forget yX1_forget, Cond.code yX1_forget cX1_forget 4 none, Cond.fieldLink RX1 33 "SixNumbers$Heap" "found" "[[I", Cond.fieldLink RX1 28 "SixNumbers$Heap" "counts" "[[J", Cond.fieldLink RX1 39 "SixNumbers$Heap" "holders" "[I", Cond.methodLink RX1 55 yX1_knows, Cond.instanceMethod yX1_knows, Cond.selects RX1 yX1_knows yX1_knows, Cond.code yX1_knows cX1_knows 2 (some .boolean), Cond.methodLink RX1 59 yX1_make, Cond.instanceMethod yX1_make, Cond.selects RX1 yX1_make yX1_make, Cond.code yX1_make cX1_make 4 none, Cond.methodLink RX1 62 yX1_add, Cond.instanceMethod yX1_add, Cond.selects RX1 yX1_add yX1_add, Cond.code yX1_add cX1_add 6 none, Cond.methodLink RX1 66 yX1_join, Cond.instanceMethod yX1_join]
def wsX0_countDraw_r3 : List Cond := [Cond.selects RX1 yX1_join yX1_join, Cond.code yX1_join cX1_join 14 none, Cond.fieldLink RX1 18 "SixNumbers$Heap" "rules" "LSixNumbers$Rules;", Cond.methodLink RX1 78 Lib.Math.abs.name, Cond.static Lib.Math.abs.name, Cond.code Lib.Math.abs.name Lib.Math.abs.code 1 (some .int), Cond.methodLink RX1 70 yX3_allow, Cond.instanceMethod yX3_allow, Cond.selects RX3 yX3_allow yX3_allow, Cond.initialized RX3, Cond.code yX3_allow cX3_allow 2 (some .boolean), Cond.fieldLink RX3 9 "SixNumbers$Rules" "acts" "I", Cond.methodLink RX0 60 yX1_reaches, Cond.instanceMethod yX1_reaches, Cond.selects RX1 yX1_reaches yX1_reaches, Cond.code yX1_reaches cX1_reaches 2 (some .boolean)]
def wsX0_countDraw : List Cond := .code yX0_countDraw cX0_countDraw 5 none :: ((wsX0_countDraw_r1 ++ (wsX0_countDraw_r2 ++ wsX0_countDraw_r3)) ++ wsX00 ++ wsX10 ++ wsX30)
def wsX0_countDraws_r1 : List Cond := [Cond.fieldLink RX0 27 "SixNumbers$Box" "counted" "I", Cond.fieldLink RX0 24 "SixNumbers$Box" "totals" "[I", Cond.fieldLink RX0 21 "SixNumbers$Box" "tallies" "[[I", Cond.fieldLink RX0 15 "SixNumbers$Box" "size" "I", Cond.methodLink RX0 37 yJ6_bitCount_0f7a4, Cond.static yJ6_bitCount_0f7a4, Cond.initialized RJ6, Cond.code yJ6_bitCount_0f7a4 cJ6_bitCount_0f7a4 1 (some .int), Cond.constant RJ6 265 (1431655765), Cond.constant RJ6 266 (858993459), Cond.constant RJ6 267 (252645135), Cond.methodLink RX0 43 yX0_countDraw, Cond.instanceMethod yX0_countDraw, Cond.selects RX0 yX0_countDraw yX0_countDraw, Cond.initialized RX0, Cond.code yX0_countDraw cX0_countDraw 5 none, Cond.fieldLink RX0 30 "SixNumbers$Box" "trial" "LSixNumbers$Heap;", Cond.fieldLink RX0 9 "SixNumbers$Box" "cards" "[I", Cond.methodLink RX0 47 yX1_place, Cond.instanceMethod yX1_place, Cond.selects RX1 yX1_place yX1_place, Cond.initialized RX1, Cond.code yX1_place cX1_place 3 none, Cond.fieldLink RX1 9 "SixNumbers$Heap" "size" "I"]
def wsX0_countDraws_r2 : List Cond := [Cond.fieldLink RX1 22 "SixNumbers$Heap" "items" "[I", Cond.methodLink RX1 42 Lib.Math.max.name, Cond.static Lib.Math.max.name, Cond.initialized "java/lang/Math", Cond.code Lib.Math.max.name Lib.Math.max.code 2 (some .int), Cond.fieldLink RX1 15 "SixNumbers$Heap" "changed" "I", Cond.methodLink RX0 53 yX1_shorten, Cond.instanceMethod yX1_shorten, Cond.selects RX1 yX1_shorten yX1_shorten, Cond.code yX1_shorten cX1_shorten 3 none, Cond.methodLink RX1 48 Lib.Math.min.name, Cond.static Lib.Math.min.name, Cond.code Lib.Math.min.name Lib.Math.min.code 2 (some .int), Cond.methodLink RX0 57 yX1_refresh, Cond.instanceMethod yX1_refresh, Cond.selects RX1 yX1_refresh yX1_refresh, Cond.code yX1_refresh cX1_refresh 2 none, Cond.fieldLink RX1 36 "SixNumbers$Heap" "founds" "[I", Cond.methodLink RX1 51 yX1_forget, Cond.instanceMethod yX1_forget, Cond.selects RX1 yX1_forget yX1_forget, Cond.code yX1_forget cX1_forget 4 none, Cond.fieldLink RX1 33 "SixNumbers$Heap" "found" "[[I", Cond.fieldLink RX1 28 "SixNumbers$Heap" "counts" "[[J"]
def wsX0_countDraws_r3 : List Cond := [Cond.fieldLink RX1 39 "SixNumbers$Heap" "holders" "[I", Cond.methodLink RX1 55 yX1_knows, Cond.instanceMethod yX1_knows, Cond.selects RX1 yX1_knows yX1_knows, Cond.code yX1_knows cX1_knows 2 (some .boolean), Cond.methodLink RX1 59 yX1_make, Cond.instanceMethod yX1_make, Cond.selects RX1 yX1_make yX1_make, Cond.code yX1_make cX1_make 4 none, Cond.methodLink RX1 62 yX1_add, Cond.instanceMethod yX1_add, Cond.selects RX1 yX1_add yX1_add, Cond.code yX1_add cX1_add 6 none, Cond.methodLink RX1 66 yX1_join, Cond.instanceMethod yX1_join, Cond.selects RX1 yX1_join yX1_join, Cond.code yX1_join cX1_join 14 none, Cond.fieldLink RX1 18 "SixNumbers$Heap" "rules" "LSixNumbers$Rules;", Cond.methodLink RX1 78 Lib.Math.abs.name, Cond.static Lib.Math.abs.name, Cond.code Lib.Math.abs.name Lib.Math.abs.code 1 (some .int), Cond.methodLink RX1 70 yX3_allow, Cond.instanceMethod yX3_allow, Cond.selects RX3 yX3_allow yX3_allow]
def wsX0_countDraws_r4 : List Cond := [Cond.initialized RX3, Cond.code yX3_allow cX3_allow 2 (some .boolean), Cond.fieldLink RX3 9 "SixNumbers$Rules" "acts" "I", Cond.methodLink RX0 60 yX1_reaches, Cond.instanceMethod yX1_reaches, Cond.selects RX1 yX1_reaches yX1_reaches, Cond.code yX1_reaches cX1_reaches 2 (some .boolean)]
def wsX0_countDraws : List Cond := .code yX0_countDraws cX0_countDraws 3 none :: ((wsX0_countDraws_r1 ++ (wsX0_countDraws_r2 ++ (wsX0_countDraws_r3 ++ wsX0_countDraws_r4))) ++ wsX00 ++ wsX10 ++ wsX30)
def wsX1_init : List Cond := .code yX1_init cX1_init 3 none :: ([.methodLink RX1 3 objectInit, .instanceMethod objectInit, .code objectInit ⟨#[0xb1]⟩ 1 none, .fieldLink RX1 9 "SixNumbers$Heap" "size" "I", .fieldLink RX1 15 "SixNumbers$Heap" "changed" "I", .fieldLink RX1 18 "SixNumbers$Heap" "rules" "LSixNumbers$Rules;", .arrayClass .int, .fieldLink RX1 22 "SixNumbers$Heap" "items" "[I", .classLink RX1 26 "[[J", .arrayClass .long, .fieldLink RX1 28 "SixNumbers$Heap" "counts" "[[J", .classLink RX1 31 "[[I", .fieldLink RX1 33 "SixNumbers$Heap" "found" "[[I", .fieldLink RX1 36 "SixNumbers$Heap" "founds" "[I", .fieldLink RX1 39 "SixNumbers$Heap" "holders" "[I"] ++ wsX10)
def wsX1_itemAt : List Cond := .code yX1_itemAt cX1_itemAt 2 (some .int) :: ([.fieldLink RX1 9 "SixNumbers$Heap" "size" "I", .fieldLink RX1 22 "SixNumbers$Heap" "items" "[I"] ++ wsX10)
def wsX1_changeEverySet : List Cond := .code yX1_changeEverySet cX1_changeEverySet 1 none :: ([.fieldLink RX1 22 "SixNumbers$Heap" "items" "[I", .fieldLink RX1 15 "SixNumbers$Heap" "changed" "I"] ++ wsX10)
def wsX1_countOf : List Cond := .code yX1_countOf cX1_countOf 3 (some .long) :: ([.fieldLink RX1 28 "SixNumbers$Heap" "counts" "[[J"] ++ wsX10)
def wsX1_countOfAllSets : List Cond := .code yX1_countOfAllSets cX1_countOfAllSets 5 (some .long) :: ([.fieldLink RX1 28 "SixNumbers$Heap" "counts" "[[J", .methodLink RX1 82 yX1_countOf, .instanceMethod yX1_countOf, .selects RX1 yX1_countOf yX1_countOf, .initialized RX1, .code yX1_countOf cX1_countOf 3 (some .long)] ++ wsX10)
def wsX1_has : List Cond := .code yX1_has cX1_has 3 (some .boolean) :: ([.methodLink RX1 86 yX1_reaches, .instanceMethod yX1_reaches, .selects RX1 yX1_reaches yX1_reaches, .initialized RX1, .code yX1_reaches cX1_reaches 2 (some .boolean), .fieldLink RX1 39 "SixNumbers$Heap" "holders" "[I", .methodLink RX1 82 yX1_countOf, .instanceMethod yX1_countOf, .selects RX1 yX1_countOf yX1_countOf, .code yX1_countOf cX1_countOf 3 (some .long), .fieldLink RX1 28 "SixNumbers$Heap" "counts" "[[J"] ++ wsX10)
def wsX1_numbersOf : List Cond := .code yX1_numbersOf cX1_numbersOf 4 (some .int) :: ([.methodLink RX1 89 yX1_has, .instanceMethod yX1_has, .selects RX1 yX1_has yX1_has, .initialized RX1, .code yX1_has cX1_has 3 (some .boolean), .methodLink RX1 86 yX1_reaches, .instanceMethod yX1_reaches, .selects RX1 yX1_reaches yX1_reaches, .code yX1_reaches cX1_reaches 2 (some .boolean), .fieldLink RX1 39 "SixNumbers$Heap" "holders" "[I", .methodLink RX1 82 yX1_countOf, .instanceMethod yX1_countOf, .selects RX1 yX1_countOf yX1_countOf, .code yX1_countOf cX1_countOf 3 (some .long), .fieldLink RX1 28 "SixNumbers$Heap" "counts" "[[J"] ++ wsX10)
def wsX1_numberAt : List Cond := .code yX1_numberAt cX1_numberAt 5 (some .int) :: ([.methodLink RX1 89 yX1_has, .instanceMethod yX1_has, .selects RX1 yX1_has yX1_has, .initialized RX1, .code yX1_has cX1_has 3 (some .boolean), .methodLink RX1 86 yX1_reaches, .instanceMethod yX1_reaches, .selects RX1 yX1_reaches yX1_reaches, .code yX1_reaches cX1_reaches 2 (some .boolean), .fieldLink RX1 39 "SixNumbers$Heap" "holders" "[I", .methodLink RX1 82 yX1_countOf, .instanceMethod yX1_countOf, .selects RX1 yX1_countOf yX1_countOf, .code yX1_countOf cX1_countOf 3 (some .long), .fieldLink RX1 28 "SixNumbers$Heap" "counts" "[[J"] ++ wsX10)
def wsX1_leastNotReached : List Cond := .code yX1_leastNotReached cX1_leastNotReached 2 (some .int) :: ([.methodLink RX1 86 yX1_reaches, .instanceMethod yX1_reaches, .selects RX1 yX1_reaches yX1_reaches, .initialized RX1, .code yX1_reaches cX1_reaches 2 (some .boolean), .fieldLink RX1 39 "SixNumbers$Heap" "holders" "[I"] ++ wsX10)
def wsX1_firstSet : List Cond := .code yX1_firstSet cX1_firstSet 5 (some .int) :: ([.fieldLink RX1 28 "SixNumbers$Heap" "counts" "[[J", .methodLink RX1 82 yX1_countOf, .instanceMethod yX1_countOf, .selects RX1 yX1_countOf yX1_countOf, .initialized RX1, .code yX1_countOf cX1_countOf 3 (some .long), .methodLink RX1 93 yJ6_bitCount_0f7a4, .static yJ6_bitCount_0f7a4, .initialized RJ6, .code yJ6_bitCount_0f7a4 cJ6_bitCount_0f7a4 1 (some .int), .constant RJ6 265 (1431655765), .constant RJ6 266 (858993459), .constant RJ6 267 (252645135)] ++ wsX10)
def wsX1_nearest : List Cond := .code yX1_nearest cX1_nearest 3 (some .int) :: ([.methodLink RX1 86 yX1_reaches, .instanceMethod yX1_reaches, .selects RX1 yX1_reaches yX1_reaches, .initialized RX1, .code yX1_reaches cX1_reaches 2 (some .boolean), .fieldLink RX1 39 "SixNumbers$Heap" "holders" "[I"] ++ wsX10)
def wsX5_rightNumber : List Cond := .code yX5_rightNumber cX5_rightNumber 3 (some .int) :: ([])
def wsX1_leastLeftNumber : List Cond := .code yX1_leastLeftNumber cX1_leastLeftNumber 11 (some .int) :: ([.fieldLink RX1 18 "SixNumbers$Heap" "rules" "LSixNumbers$Rules;", .fieldLink RX1 36 "SixNumbers$Heap" "founds" "[I", .fieldLink RX1 33 "SixNumbers$Heap" "found" "[[I", .methodLink RX1 70 yX3_allow, .instanceMethod yX3_allow, .selects RX3 yX3_allow yX3_allow, .initialized RX3, .code yX3_allow cX3_allow 2 (some .boolean), .fieldLink RX3 9 "SixNumbers$Rules" "acts" "I", .static yX5_rightNumber, .initialized RX5, .code yX5_rightNumber cX5_rightNumber 3 (some .int), .methodLink RX1 82 yX1_countOf, .instanceMethod yX1_countOf, .selects RX1 yX1_countOf yX1_countOf, .initialized RX1, .code yX1_countOf cX1_countOf 3 (some .long), .fieldLink RX1 28 "SixNumbers$Heap" "counts" "[[J"] ++ wsX10 ++ wsX30)
def wsX2_init : List Cond := .code yX2_init cX2_init 1 none :: ([.methodLink RX2 3 objectInit, .instanceMethod objectInit, .code objectInit ⟨#[0xb1]⟩ 1 none, .arrayClass .char, .fieldLink RX2 9 "SixNumbers$Out" "text" "[C", .fieldLink RX2 15 "SixNumbers$Out" "length" "I"] ++ wsX20)
def wsX2_add : List Cond := .code yX2_add cX2_add 2 none :: ([.fieldLink RX2 15 "SixNumbers$Out" "length" "I", .fieldLink RX2 9 "SixNumbers$Out" "text" "[C"] ++ wsX20)
def wsX2_addNumber : List Cond := .code yX2_addNumber cX2_addNumber 3 none :: ([.methodLink RX2 19 yX2_add, .instanceMethod yX2_add, .selects RX2 yX2_add yX2_add, .initialized RX2, .code yX2_add cX2_add 2 none, .fieldLink RX2 15 "SixNumbers$Out" "length" "I", .fieldLink RX2 9 "SixNumbers$Out" "text" "[C"] ++ wsX20)
def wsX2_byteAt : List Cond := .code yX2_byteAt cX2_byteAt 2 (some .int) :: ([.fieldLink RX2 15 "SixNumbers$Out" "length" "I", .fieldLink RX2 9 "SixNumbers$Out" "text" "[C"] ++ wsX20)
def wsX3_init : List Cond := .code yX3_init cX3_init 1 none :: ([.methodLink RX3 3 objectInit, .instanceMethod objectInit, .code objectInit ⟨#[0xb1]⟩ 1 none, .fieldLink RX3 9 "SixNumbers$Rules" "acts" "I", .fieldLink RX3 15 "SixNumbers$Rules" "most" "I"] ++ wsX30)
def wsX4_init : List Cond := .code yX4_init cX4_init 1 none :: ([.methodLink RX4 3 objectInit, .instanceMethod objectInit, .code objectInit ⟨#[0xb1]⟩ 1 none, .arrayClass .int, .fieldLink RX4 9 "SixNumbers$Signs" "steps" "[I", .fieldLink RX4 15 "SixNumbers$Signs" "queue" "[I", .fieldLink RX4 18 "SixNumbers$Signs" "waiting" "I", .fieldLink RX4 22 "SixNumbers$Signs" "from" "I"] ++ wsX40)
def wsX5_isOutside : List Cond := .code yX5_isOutside cX5_isOutside 3 (some .boolean) :: ([])
def wsX4_arrive : List Cond := .code yX4_arrive cX4_arrive 3 none :: ([.fieldLink RX4 9 "SixNumbers$Signs" "steps" "[I", .fieldLink RX4 18 "SixNumbers$Signs" "waiting" "I", .fieldLink RX4 15 "SixNumbers$Signs" "queue" "[I", .static yX5_isOutside, .initialized RX5, .code yX5_isOutside cX5_isOutside 3 (some .boolean)] ++ wsX40)
def wsX4_rootOf : List Cond := .code yX4_rootOf cX4_rootOf 3 (some .int) :: ([])
def wsX4_productTo : List Cond := .code yX4_productTo cX4_productTo 3 (some .int) :: ([])
def wsX4_signed : List Cond := .code yX4_signed cX4_signed 2 (some .int) :: ([.methodLink RX4 41 yX4_rootOf, .static yX4_rootOf, .initialized RX4, .code yX4_rootOf cX4_rootOf 3 (some .int), .methodLink RX4 45 yX4_productTo, .static yX4_productTo, .code yX4_productTo cX4_productTo 3 (some .int)])
def wsX4_walkFrom : List Cond := .code yX4_walkFrom cX4_walkFrom 5 none :: ([.fieldLink RX4 22 "SixNumbers$Signs" "from" "I", .fieldLink RX4 18 "SixNumbers$Signs" "waiting" "I", .fieldLink RX4 9 "SixNumbers$Signs" "steps" "[I", .fieldLink RX4 15 "SixNumbers$Signs" "queue" "[I", .methodLink RX4 33 yX4_arrive, .instanceMethod yX4_arrive, .selects RX4 yX4_arrive yX4_arrive, .initialized RX4, .code yX4_arrive cX4_arrive 3 none, .static yX5_isOutside, .initialized RX5, .code yX5_isOutside cX5_isOutside 3 (some .boolean), .methodLink RX4 37 yX4_signed, .static yX4_signed, .code yX4_signed cX4_signed 2 (some .int), .methodLink RX4 41 yX4_rootOf, .static yX4_rootOf, .code yX4_rootOf cX4_rootOf 3 (some .int), .methodLink RX4 45 yX4_productTo, .static yX4_productTo, .code yX4_productTo cX4_productTo 3 (some .int)] ++ wsX40)
def wsX4_stepsBetween_r1 : List Cond := [Cond.fieldLink RX4 22 "SixNumbers$Signs" "from" "I", Cond.fieldLink RX4 9 "SixNumbers$Signs" "steps" "[I", Cond.static yX5_isOutside, Cond.initialized RX5, Cond.code yX5_isOutside cX5_isOutside 3 (some .boolean), Cond.methodLink RX4 29 yX4_walkFrom, Cond.instanceMethod yX4_walkFrom, Cond.selects RX4 yX4_walkFrom yX4_walkFrom, Cond.initialized RX4, Cond.code yX4_walkFrom cX4_walkFrom 5 none, Cond.fieldLink RX4 18 "SixNumbers$Signs" "waiting" "I", Cond.fieldLink RX4 15 "SixNumbers$Signs" "queue" "[I", Cond.methodLink RX4 33 yX4_arrive, Cond.instanceMethod yX4_arrive, Cond.selects RX4 yX4_arrive yX4_arrive, Cond.code yX4_arrive cX4_arrive 3 none, Cond.methodLink RX4 37 yX4_signed, Cond.static yX4_signed, Cond.code yX4_signed cX4_signed 2 (some .int), Cond.methodLink RX4 41 yX4_rootOf, Cond.static yX4_rootOf, Cond.code yX4_rootOf cX4_rootOf 3 (some .int), Cond.methodLink RX4 45 yX4_productTo, Cond.static yX4_productTo]
def wsX4_stepsBetween_r2 : List Cond := [Cond.code yX4_productTo cX4_productTo 3 (some .int)]
def wsX4_stepsBetween : List Cond := .code yX4_stepsBetween cX4_stepsBetween 3 (some .int) :: ((wsX4_stepsBetween_r1 ++ wsX4_stepsBetween_r2) ++ wsX40)
def wsX5_init_r1 : List Cond := [Cond.methodLink RX5 1 objectInit, Cond.instanceMethod objectInit, Cond.code objectInit ⟨#[0xb1]⟩ 1 none, Cond.classLink RX5 7 RX3, Cond.instantiable RX3 2, Cond.initialized RX3, Cond.fieldLink RX5 10 "SixNumbers" "rules" "LSixNumbers$Rules;", Cond.classLink RX5 16 RX1, Cond.instantiable RX1 8, Cond.initialized RX1, Cond.fieldLink RX5 21 "SixNumbers" "heap" "LSixNumbers$Heap;", Cond.fieldLink RX5 25 "SixNumbers" "trial" "LSixNumbers$Heap;", Cond.classLink RX5 28 RX0, Cond.instantiable RX0 6, Cond.initialized RX0, Cond.fieldLink RX5 33 "SixNumbers" "box" "LSixNumbers$Box;", Cond.classLink RX5 37 RX2, Cond.instantiable RX2 2, Cond.initialized RX2, Cond.fieldLink RX5 40 "SixNumbers" "bytes" "LSixNumbers$Out;", Cond.classLink RX5 44 RX4, Cond.instantiable RX4 4, Cond.initialized RX4, Cond.fieldLink RX5 47 "SixNumbers" "chain" "LSixNumbers$Signs;"]
def wsX5_init_r2 : List Cond := [Cond.instanceMethod yX3_init, Cond.code yX3_init cX3_init 1 none, Cond.methodLink RX3 3 objectInit, Cond.fieldLink RX3 9 "SixNumbers$Rules" "acts" "I", Cond.fieldLink RX3 15 "SixNumbers$Rules" "most" "I", Cond.methodLink RX5 18 yX1_init, Cond.instanceMethod yX1_init, Cond.code yX1_init cX1_init 3 none, Cond.methodLink RX1 3 objectInit, Cond.fieldLink RX1 9 "SixNumbers$Heap" "size" "I", Cond.fieldLink RX1 15 "SixNumbers$Heap" "changed" "I", Cond.fieldLink RX1 18 "SixNumbers$Heap" "rules" "LSixNumbers$Rules;", Cond.arrayClass .int, Cond.fieldLink RX1 22 "SixNumbers$Heap" "items" "[I", Cond.classLink RX1 26 "[[J", Cond.arrayClass .long, Cond.fieldLink RX1 28 "SixNumbers$Heap" "counts" "[[J", Cond.classLink RX1 31 "[[I", Cond.fieldLink RX1 33 "SixNumbers$Heap" "found" "[[I", Cond.fieldLink RX1 36 "SixNumbers$Heap" "founds" "[I", Cond.fieldLink RX1 39 "SixNumbers$Heap" "holders" "[I", Cond.methodLink RX5 30 yX0_init, Cond.instanceMethod yX0_init, Cond.code yX0_init cX0_init 2 none]
def wsX5_init_r3 : List Cond := [Cond.methodLink RX0 3 objectInit, Cond.fieldLink RX0 9 "SixNumbers$Box" "cards" "[I", Cond.fieldLink RX0 15 "SixNumbers$Box" "size" "I", Cond.classLink RX0 19 "[[I", Cond.fieldLink RX0 21 "SixNumbers$Box" "tallies" "[[I", Cond.fieldLink RX0 24 "SixNumbers$Box" "totals" "[I", Cond.fieldLink RX0 27 "SixNumbers$Box" "counted" "I", Cond.fieldLink RX0 30 "SixNumbers$Box" "trial" "LSixNumbers$Heap;", Cond.instanceMethod yX2_init, Cond.code yX2_init cX2_init 1 none, Cond.methodLink RX2 3 objectInit, Cond.arrayClass .char, Cond.fieldLink RX2 9 "SixNumbers$Out" "text" "[C", Cond.fieldLink RX2 15 "SixNumbers$Out" "length" "I", Cond.instanceMethod yX4_init, Cond.code yX4_init cX4_init 1 none, Cond.methodLink RX4 3 objectInit, Cond.fieldLink RX4 9 "SixNumbers$Signs" "steps" "[I", Cond.fieldLink RX4 15 "SixNumbers$Signs" "queue" "[I", Cond.fieldLink RX4 18 "SixNumbers$Signs" "waiting" "I", Cond.fieldLink RX4 22 "SixNumbers$Signs" "from" "I"]
def wsX5_init : List Cond := .code yX5_init cX5_init 1 none :: ((wsX5_init_r1 ++ (wsX5_init_r2 ++ wsX5_init_r3)) ++ wsX30 ++ wsX50 ++ wsX10 ++ wsX00 ++ wsX20 ++ wsX40)
def wsX5_item : List Cond := .code yX5_item cX5_item 3 (some .int) :: ([.fieldLink RX5 21 "SixNumbers" "heap" "LSixNumbers$Heap;", .methodLink RX5 51 yX5_isOutside, .static yX5_isOutside, .initialized RX5, .code yX5_isOutside cX5_isOutside 3 (some .boolean), .methodLink RX5 59 yX1_place, .instanceMethod yX1_place, .selects RX1 yX1_place yX1_place, .initialized RX1, .code yX1_place cX1_place 3 none, .fieldLink RX1 9 "SixNumbers$Heap" "size" "I", .fieldLink RX1 22 "SixNumbers$Heap" "items" "[I", .methodLink RX1 42 Lib.Math.max.name, .static Lib.Math.max.name, .initialized "java/lang/Math", .code Lib.Math.max.name Lib.Math.max.code 2 (some .int), .fieldLink RX1 15 "SixNumbers$Heap" "changed" "I"] ++ wsX50 ++ wsX10)
def wsX5_set : List Cond := .code yX5_set cX5_set 4 (some .int) :: ([.fieldLink RX5 21 "SixNumbers" "heap" "LSixNumbers$Heap;", .methodLink RX5 51 yX5_isOutside, .static yX5_isOutside, .initialized RX5, .code yX5_isOutside cX5_isOutside 3 (some .boolean), .methodLink RX5 63 yX1_itemAt, .instanceMethod yX1_itemAt, .selects RX1 yX1_itemAt yX1_itemAt, .initialized RX1, .code yX1_itemAt cX1_itemAt 2 (some .int), .fieldLink RX1 9 "SixNumbers$Heap" "size" "I", .fieldLink RX1 22 "SixNumbers$Heap" "items" "[I", .methodLink RX5 59 yX1_place, .instanceMethod yX1_place, .selects RX1 yX1_place yX1_place, .code yX1_place cX1_place 3 none, .methodLink RX1 42 Lib.Math.max.name, .static Lib.Math.max.name, .initialized "java/lang/Math", .code Lib.Math.max.name Lib.Math.max.code 2 (some .int), .fieldLink RX1 15 "SixNumbers$Heap" "changed" "I"] ++ wsX50 ++ wsX10)
def wsX5_cut : List Cond := .code yX5_cut cX5_cut 3 (some .int) :: ([.fieldLink RX5 21 "SixNumbers" "heap" "LSixNumbers$Heap;", .methodLink RX5 51 yX5_isOutside, .static yX5_isOutside, .initialized RX5, .code yX5_isOutside cX5_isOutside 3 (some .boolean), .methodLink RX5 67 yX1_shorten, .instanceMethod yX1_shorten, .selects RX1 yX1_shorten yX1_shorten, .initialized RX1, .code yX1_shorten cX1_shorten 3 none, .fieldLink RX1 9 "SixNumbers$Heap" "size" "I", .fieldLink RX1 15 "SixNumbers$Heap" "changed" "I", .methodLink RX1 48 Lib.Math.min.name, .static Lib.Math.min.name, .initialized "java/lang/Math", .code Lib.Math.min.name Lib.Math.min.code 2 (some .int)] ++ wsX50 ++ wsX10)
def wsX5_rule : List Cond := .code yX5_rule cX5_rule 5 (some .int) :: ([.fieldLink RX5 10 "SixNumbers" "rules" "LSixNumbers$Rules;", .fieldLink RX5 21 "SixNumbers" "heap" "LSixNumbers$Heap;", .fieldLink RX5 25 "SixNumbers" "trial" "LSixNumbers$Heap;", .fieldLink RX5 33 "SixNumbers" "box" "LSixNumbers$Box;", .methodLink RX5 51 yX5_isOutside, .static yX5_isOutside, .initialized RX5, .code yX5_isOutside cX5_isOutside 3 (some .boolean), .methodLink RX5 77 yX1_changeEverySet, .instanceMethod yX1_changeEverySet, .selects RX1 yX1_changeEverySet yX1_changeEverySet, .initialized RX1, .code yX1_changeEverySet cX1_changeEverySet 1 none, .fieldLink RX1 22 "SixNumbers$Heap" "items" "[I", .fieldLink RX1 15 "SixNumbers$Heap" "changed" "I", .methodLink RX5 80 yX0_forgetTallies, .instanceMethod yX0_forgetTallies, .selects RX0 yX0_forgetTallies yX0_forgetTallies, .initialized RX0, .code yX0_forgetTallies cX0_forgetTallies 1 none, .fieldLink RX0 27 "SixNumbers$Box" "counted" "I"] ++ wsX50 ++ wsX30 ++ wsX10 ++ wsX00)
def wsX5_told : List Cond := .code yX5_told cX5_told 2 (some .int) :: ([.fieldLink RX5 21 "SixNumbers" "heap" "LSixNumbers$Heap;", .fieldLink RX5 10 "SixNumbers" "rules" "LSixNumbers$Rules;", .fieldLink RX5 33 "SixNumbers" "box" "LSixNumbers$Box;", .fieldLink RX5 40 "SixNumbers" "bytes" "LSixNumbers$Out;", .methodLink RX5 51 yX5_isOutside, .static yX5_isOutside, .initialized RX5, .code yX5_isOutside cX5_isOutside 3 (some .boolean), .methodLink RX5 63 yX1_itemAt, .instanceMethod yX1_itemAt, .selects RX1 yX1_itemAt yX1_itemAt, .initialized RX1, .code yX1_itemAt cX1_itemAt 2 (some .int), .fieldLink RX1 9 "SixNumbers$Heap" "size" "I", .fieldLink RX1 22 "SixNumbers$Heap" "items" "[I", .methodLink RX5 87 yX0_cardAt, .instanceMethod yX0_cardAt, .selects RX0 yX0_cardAt yX0_cardAt, .initialized RX0, .code yX0_cardAt cX0_cardAt 2 (some .int), .fieldLink RX0 15 "SixNumbers$Box" "size" "I", .fieldLink RX0 9 "SixNumbers$Box" "cards" "[I"] ++ wsX50 ++ wsX10 ++ wsX30 ++ wsX00 ++ wsX20)
def wsX5_isNoWholeSet : List Cond := .code yX5_isNoWholeSet cX5_isNoWholeSet 2 (some .boolean) :: ([.fieldLink RX5 21 "SixNumbers" "heap" "LSixNumbers$Heap;", .methodLink RX5 107 yX1_knows, .instanceMethod yX1_knows, .selects RX1 yX1_knows yX1_knows, .initialized RX1, .code yX1_knows cX1_knows 2 (some .boolean), .fieldLink RX1 9 "SixNumbers$Heap" "size" "I"] ++ wsX50 ++ wsX10)
def wsX5_ways_r1 : List Cond := [Cond.constantLong RX5 94 (-1002), Cond.fieldLink RX5 21 "SixNumbers" "heap" "LSixNumbers$Heap;", Cond.methodLink RX5 90 yX5_isNoWholeSet, Cond.instanceMethod yX5_isNoWholeSet, Cond.selects RX5 yX5_isNoWholeSet yX5_isNoWholeSet, Cond.initialized RX5, Cond.code yX5_isNoWholeSet cX5_isNoWholeSet 2 (some .boolean), Cond.methodLink RX5 107 yX1_knows, Cond.instanceMethod yX1_knows, Cond.selects RX1 yX1_knows yX1_knows, Cond.initialized RX1, Cond.code yX1_knows cX1_knows 2 (some .boolean), Cond.fieldLink RX1 9 "SixNumbers$Heap" "size" "I", Cond.methodLink RX5 51 yX5_isOutside, Cond.static yX5_isOutside, Cond.code yX5_isOutside cX5_isOutside 3 (some .boolean), Cond.methodLink RX5 96 yX1_refresh, Cond.instanceMethod yX1_refresh, Cond.selects RX1 yX1_refresh yX1_refresh, Cond.code yX1_refresh cX1_refresh 2 none, Cond.fieldLink RX1 15 "SixNumbers$Heap" "changed" "I", Cond.fieldLink RX1 36 "SixNumbers$Heap" "founds" "[I", Cond.methodLink RX1 51 yX1_forget, Cond.instanceMethod yX1_forget]
def wsX5_ways_r2 : List Cond := [Cond.selects RX1 yX1_forget yX1_forget, Cond.code yX1_forget cX1_forget 4 none, Cond.fieldLink RX1 33 "SixNumbers$Heap" "found" "[[I", Cond.fieldLink RX1 28 "SixNumbers$Heap" "counts" "[[J", Cond.fieldLink RX1 39 "SixNumbers$Heap" "holders" "[I", Cond.methodLink RX1 55 yX1_knows, Cond.methodLink RX1 59 yX1_make, Cond.instanceMethod yX1_make, Cond.selects RX1 yX1_make yX1_make, Cond.code yX1_make cX1_make 4 none, Cond.fieldLink RX1 22 "SixNumbers$Heap" "items" "[I", Cond.methodLink RX1 62 yX1_add, Cond.instanceMethod yX1_add, Cond.selects RX1 yX1_add yX1_add, Cond.code yX1_add cX1_add 6 none, Cond.methodLink RX1 66 yX1_join, Cond.instanceMethod yX1_join, Cond.selects RX1 yX1_join yX1_join, Cond.code yX1_join cX1_join 14 none, Cond.fieldLink RX1 18 "SixNumbers$Heap" "rules" "LSixNumbers$Rules;", Cond.methodLink RX1 78 Lib.Math.abs.name, Cond.static Lib.Math.abs.name, Cond.initialized "java/lang/Math", Cond.code Lib.Math.abs.name Lib.Math.abs.code 1 (some .int)]
def wsX5_ways_r3 : List Cond := [Cond.methodLink RX1 70 yX3_allow, Cond.instanceMethod yX3_allow, Cond.selects RX3 yX3_allow yX3_allow, Cond.initialized RX3, Cond.code yX3_allow cX3_allow 2 (some .boolean), Cond.fieldLink RX3 9 "SixNumbers$Rules" "acts" "I", Cond.methodLink RX5 99 yX1_countOf, Cond.instanceMethod yX1_countOf, Cond.selects RX1 yX1_countOf yX1_countOf, Cond.code yX1_countOf cX1_countOf 3 (some .long)]
def wsX5_ways : List Cond := .code yX5_ways cX5_ways 3 (some .long) :: ((wsX5_ways_r1 ++ (wsX5_ways_r2 ++ wsX5_ways_r3)) ++ wsX50 ++ wsX10 ++ wsX30)
def wsX5_all_r1 : List Cond := [Cond.constantLong RX5 94 (-1002), Cond.fieldLink RX5 21 "SixNumbers" "heap" "LSixNumbers$Heap;", Cond.methodLink RX5 51 yX5_isOutside, Cond.static yX5_isOutside, Cond.initialized RX5, Cond.code yX5_isOutside cX5_isOutside 3 (some .boolean), Cond.methodLink RX5 96 yX1_refresh, Cond.instanceMethod yX1_refresh, Cond.selects RX1 yX1_refresh yX1_refresh, Cond.initialized RX1, Cond.code yX1_refresh cX1_refresh 2 none, Cond.fieldLink RX1 15 "SixNumbers$Heap" "changed" "I", Cond.fieldLink RX1 36 "SixNumbers$Heap" "founds" "[I", Cond.methodLink RX1 51 yX1_forget, Cond.instanceMethod yX1_forget, Cond.selects RX1 yX1_forget yX1_forget, Cond.code yX1_forget cX1_forget 4 none, Cond.fieldLink RX1 33 "SixNumbers$Heap" "found" "[[I", Cond.fieldLink RX1 28 "SixNumbers$Heap" "counts" "[[J", Cond.fieldLink RX1 39 "SixNumbers$Heap" "holders" "[I", Cond.methodLink RX1 55 yX1_knows, Cond.instanceMethod yX1_knows, Cond.selects RX1 yX1_knows yX1_knows, Cond.code yX1_knows cX1_knows 2 (some .boolean)]
def wsX5_all_r2 : List Cond := [Cond.fieldLink RX1 9 "SixNumbers$Heap" "size" "I", Cond.methodLink RX1 59 yX1_make, Cond.instanceMethod yX1_make, Cond.selects RX1 yX1_make yX1_make, Cond.code yX1_make cX1_make 4 none, Cond.fieldLink RX1 22 "SixNumbers$Heap" "items" "[I", Cond.methodLink RX1 62 yX1_add, Cond.instanceMethod yX1_add, Cond.selects RX1 yX1_add yX1_add, Cond.code yX1_add cX1_add 6 none, Cond.methodLink RX1 66 yX1_join, Cond.instanceMethod yX1_join, Cond.selects RX1 yX1_join yX1_join, Cond.code yX1_join cX1_join 14 none, Cond.fieldLink RX1 18 "SixNumbers$Heap" "rules" "LSixNumbers$Rules;", Cond.methodLink RX1 78 Lib.Math.abs.name, Cond.static Lib.Math.abs.name, Cond.initialized "java/lang/Math", Cond.code Lib.Math.abs.name Lib.Math.abs.code 1 (some .int), Cond.methodLink RX1 70 yX3_allow, Cond.instanceMethod yX3_allow, Cond.selects RX3 yX3_allow yX3_allow, Cond.initialized RX3, Cond.code yX3_allow cX3_allow 2 (some .boolean)]
def wsX5_all_r3 : List Cond := [Cond.fieldLink RX3 9 "SixNumbers$Rules" "acts" "I", Cond.methodLink RX5 103 yX1_countOfAllSets, Cond.instanceMethod yX1_countOfAllSets, Cond.selects RX1 yX1_countOfAllSets yX1_countOfAllSets, Cond.code yX1_countOfAllSets cX1_countOfAllSets 5 (some .long), Cond.methodLink RX1 82 yX1_countOf, Cond.instanceMethod yX1_countOf, Cond.selects RX1 yX1_countOf yX1_countOf, Cond.code yX1_countOf cX1_countOf 3 (some .long)]
def wsX5_all : List Cond := .code yX5_all cX5_all 2 (some .long) :: ((wsX5_all_r1 ++ (wsX5_all_r2 ++ wsX5_all_r3)) ++ wsX50 ++ wsX10 ++ wsX30)
def wsX5_reached_r1 : List Cond := [Cond.fieldLink RX5 21 "SixNumbers" "heap" "LSixNumbers$Heap;", Cond.methodLink RX5 107 yX1_knows, Cond.instanceMethod yX1_knows, Cond.selects RX1 yX1_knows yX1_knows, Cond.initialized RX1, Cond.code yX1_knows cX1_knows 2 (some .boolean), Cond.fieldLink RX1 9 "SixNumbers$Heap" "size" "I", Cond.methodLink RX5 96 yX1_refresh, Cond.instanceMethod yX1_refresh, Cond.selects RX1 yX1_refresh yX1_refresh, Cond.code yX1_refresh cX1_refresh 2 none, Cond.fieldLink RX1 15 "SixNumbers$Heap" "changed" "I", Cond.fieldLink RX1 36 "SixNumbers$Heap" "founds" "[I", Cond.methodLink RX1 51 yX1_forget, Cond.instanceMethod yX1_forget, Cond.selects RX1 yX1_forget yX1_forget, Cond.code yX1_forget cX1_forget 4 none, Cond.fieldLink RX1 33 "SixNumbers$Heap" "found" "[[I", Cond.fieldLink RX1 28 "SixNumbers$Heap" "counts" "[[J", Cond.fieldLink RX1 39 "SixNumbers$Heap" "holders" "[I", Cond.methodLink RX1 55 yX1_knows, Cond.methodLink RX1 59 yX1_make, Cond.instanceMethod yX1_make, Cond.selects RX1 yX1_make yX1_make]
def wsX5_reached_r2 : List Cond := [Cond.code yX1_make cX1_make 4 none, Cond.fieldLink RX1 22 "SixNumbers$Heap" "items" "[I", Cond.methodLink RX1 62 yX1_add, Cond.instanceMethod yX1_add, Cond.selects RX1 yX1_add yX1_add, Cond.code yX1_add cX1_add 6 none, Cond.methodLink RX1 66 yX1_join, Cond.instanceMethod yX1_join, Cond.selects RX1 yX1_join yX1_join, Cond.code yX1_join cX1_join 14 none, Cond.fieldLink RX1 18 "SixNumbers$Heap" "rules" "LSixNumbers$Rules;", Cond.methodLink RX1 78 Lib.Math.abs.name, Cond.static Lib.Math.abs.name, Cond.initialized "java/lang/Math", Cond.code Lib.Math.abs.name Lib.Math.abs.code 1 (some .int), Cond.methodLink RX1 70 yX3_allow, Cond.instanceMethod yX3_allow, Cond.selects RX3 yX3_allow yX3_allow, Cond.initialized RX3, Cond.code yX3_allow cX3_allow 2 (some .boolean), Cond.fieldLink RX3 9 "SixNumbers$Rules" "acts" "I", Cond.methodLink RX5 110 yX1_numbersOf, Cond.instanceMethod yX1_numbersOf, Cond.selects RX1 yX1_numbersOf yX1_numbersOf]
def wsX5_reached_r3 : List Cond := [Cond.code yX1_numbersOf cX1_numbersOf 4 (some .int), Cond.methodLink RX1 89 yX1_has, Cond.instanceMethod yX1_has, Cond.selects RX1 yX1_has yX1_has, Cond.code yX1_has cX1_has 3 (some .boolean), Cond.methodLink RX1 86 yX1_reaches, Cond.instanceMethod yX1_reaches, Cond.selects RX1 yX1_reaches yX1_reaches, Cond.code yX1_reaches cX1_reaches 2 (some .boolean), Cond.methodLink RX1 82 yX1_countOf, Cond.instanceMethod yX1_countOf, Cond.selects RX1 yX1_countOf yX1_countOf, Cond.code yX1_countOf cX1_countOf 3 (some .long)]
def wsX5_reached : List Cond := .code yX5_reached cX5_reached 2 (some .int) :: ((wsX5_reached_r1 ++ (wsX5_reached_r2 ++ wsX5_reached_r3)) ++ wsX50 ++ wsX10 ++ wsX30)
def wsX5_value_r1 : List Cond := [Cond.fieldLink RX5 21 "SixNumbers" "heap" "LSixNumbers$Heap;", Cond.methodLink RX5 107 yX1_knows, Cond.instanceMethod yX1_knows, Cond.selects RX1 yX1_knows yX1_knows, Cond.initialized RX1, Cond.code yX1_knows cX1_knows 2 (some .boolean), Cond.fieldLink RX1 9 "SixNumbers$Heap" "size" "I", Cond.methodLink RX5 96 yX1_refresh, Cond.instanceMethod yX1_refresh, Cond.selects RX1 yX1_refresh yX1_refresh, Cond.code yX1_refresh cX1_refresh 2 none, Cond.fieldLink RX1 15 "SixNumbers$Heap" "changed" "I", Cond.fieldLink RX1 36 "SixNumbers$Heap" "founds" "[I", Cond.methodLink RX1 51 yX1_forget, Cond.instanceMethod yX1_forget, Cond.selects RX1 yX1_forget yX1_forget, Cond.code yX1_forget cX1_forget 4 none, Cond.fieldLink RX1 33 "SixNumbers$Heap" "found" "[[I", Cond.fieldLink RX1 28 "SixNumbers$Heap" "counts" "[[J", Cond.fieldLink RX1 39 "SixNumbers$Heap" "holders" "[I", Cond.methodLink RX1 55 yX1_knows, Cond.methodLink RX1 59 yX1_make, Cond.instanceMethod yX1_make, Cond.selects RX1 yX1_make yX1_make]
def wsX5_value_r2 : List Cond := [Cond.code yX1_make cX1_make 4 none, Cond.fieldLink RX1 22 "SixNumbers$Heap" "items" "[I", Cond.methodLink RX1 62 yX1_add, Cond.instanceMethod yX1_add, Cond.selects RX1 yX1_add yX1_add, Cond.code yX1_add cX1_add 6 none, Cond.methodLink RX1 66 yX1_join, Cond.instanceMethod yX1_join, Cond.selects RX1 yX1_join yX1_join, Cond.code yX1_join cX1_join 14 none, Cond.fieldLink RX1 18 "SixNumbers$Heap" "rules" "LSixNumbers$Rules;", Cond.methodLink RX1 78 Lib.Math.abs.name, Cond.static Lib.Math.abs.name, Cond.initialized "java/lang/Math", Cond.code Lib.Math.abs.name Lib.Math.abs.code 1 (some .int), Cond.methodLink RX1 70 yX3_allow, Cond.instanceMethod yX3_allow, Cond.selects RX3 yX3_allow yX3_allow, Cond.initialized RX3, Cond.code yX3_allow cX3_allow 2 (some .boolean), Cond.fieldLink RX3 9 "SixNumbers$Rules" "acts" "I", Cond.methodLink RX5 113 yX1_numberAt, Cond.instanceMethod yX1_numberAt, Cond.selects RX1 yX1_numberAt yX1_numberAt]
def wsX5_value_r3 : List Cond := [Cond.code yX1_numberAt cX1_numberAt 5 (some .int), Cond.methodLink RX1 89 yX1_has, Cond.instanceMethod yX1_has, Cond.selects RX1 yX1_has yX1_has, Cond.code yX1_has cX1_has 3 (some .boolean), Cond.methodLink RX1 86 yX1_reaches, Cond.instanceMethod yX1_reaches, Cond.selects RX1 yX1_reaches yX1_reaches, Cond.code yX1_reaches cX1_reaches 2 (some .boolean), Cond.methodLink RX1 82 yX1_countOf, Cond.instanceMethod yX1_countOf, Cond.selects RX1 yX1_countOf yX1_countOf, Cond.code yX1_countOf cX1_countOf 3 (some .long)]
def wsX5_value : List Cond := .code yX5_value cX5_value 3 (some .int) :: ((wsX5_value_r1 ++ (wsX5_value_r2 ++ wsX5_value_r3)) ++ wsX50 ++ wsX10 ++ wsX30)
def wsX5_missing_r1 : List Cond := [Cond.fieldLink RX5 21 "SixNumbers" "heap" "LSixNumbers$Heap;", Cond.methodLink RX5 96 yX1_refresh, Cond.instanceMethod yX1_refresh, Cond.selects RX1 yX1_refresh yX1_refresh, Cond.initialized RX1, Cond.code yX1_refresh cX1_refresh 2 none, Cond.fieldLink RX1 15 "SixNumbers$Heap" "changed" "I", Cond.fieldLink RX1 36 "SixNumbers$Heap" "founds" "[I", Cond.methodLink RX1 51 yX1_forget, Cond.instanceMethod yX1_forget, Cond.selects RX1 yX1_forget yX1_forget, Cond.code yX1_forget cX1_forget 4 none, Cond.fieldLink RX1 33 "SixNumbers$Heap" "found" "[[I", Cond.fieldLink RX1 28 "SixNumbers$Heap" "counts" "[[J", Cond.fieldLink RX1 39 "SixNumbers$Heap" "holders" "[I", Cond.methodLink RX1 55 yX1_knows, Cond.instanceMethod yX1_knows, Cond.selects RX1 yX1_knows yX1_knows, Cond.code yX1_knows cX1_knows 2 (some .boolean), Cond.fieldLink RX1 9 "SixNumbers$Heap" "size" "I", Cond.methodLink RX1 59 yX1_make, Cond.instanceMethod yX1_make, Cond.selects RX1 yX1_make yX1_make, Cond.code yX1_make cX1_make 4 none]
def wsX5_missing_r2 : List Cond := [Cond.fieldLink RX1 22 "SixNumbers$Heap" "items" "[I", Cond.methodLink RX1 62 yX1_add, Cond.instanceMethod yX1_add, Cond.selects RX1 yX1_add yX1_add, Cond.code yX1_add cX1_add 6 none, Cond.methodLink RX1 66 yX1_join, Cond.instanceMethod yX1_join, Cond.selects RX1 yX1_join yX1_join, Cond.code yX1_join cX1_join 14 none, Cond.fieldLink RX1 18 "SixNumbers$Heap" "rules" "LSixNumbers$Rules;", Cond.methodLink RX1 78 Lib.Math.abs.name, Cond.static Lib.Math.abs.name, Cond.initialized "java/lang/Math", Cond.code Lib.Math.abs.name Lib.Math.abs.code 1 (some .int), Cond.methodLink RX1 70 yX3_allow, Cond.instanceMethod yX3_allow, Cond.selects RX3 yX3_allow yX3_allow, Cond.initialized RX3, Cond.code yX3_allow cX3_allow 2 (some .boolean), Cond.fieldLink RX3 9 "SixNumbers$Rules" "acts" "I", Cond.methodLink RX5 117 yX1_leastNotReached, Cond.instanceMethod yX1_leastNotReached, Cond.selects RX1 yX1_leastNotReached yX1_leastNotReached, Cond.code yX1_leastNotReached cX1_leastNotReached 2 (some .int)]
def wsX5_missing_r3 : List Cond := [Cond.methodLink RX1 86 yX1_reaches, Cond.instanceMethod yX1_reaches, Cond.selects RX1 yX1_reaches yX1_reaches, Cond.code yX1_reaches cX1_reaches 2 (some .boolean)]
def wsX5_missing : List Cond := .code yX5_missing cX5_missing 1 (some .int) :: ((wsX5_missing_r1 ++ (wsX5_missing_r2 ++ wsX5_missing_r3)) ++ wsX50 ++ wsX10 ++ wsX30)
def wsX5_aim_r1 : List Cond := [Cond.fieldLink RX5 21 "SixNumbers" "heap" "LSixNumbers$Heap;", Cond.methodLink RX5 51 yX5_isOutside, Cond.static yX5_isOutside, Cond.initialized RX5, Cond.code yX5_isOutside cX5_isOutside 3 (some .boolean), Cond.methodLink RX5 96 yX1_refresh, Cond.instanceMethod yX1_refresh, Cond.selects RX1 yX1_refresh yX1_refresh, Cond.initialized RX1, Cond.code yX1_refresh cX1_refresh 2 none, Cond.fieldLink RX1 15 "SixNumbers$Heap" "changed" "I", Cond.fieldLink RX1 36 "SixNumbers$Heap" "founds" "[I", Cond.methodLink RX1 51 yX1_forget, Cond.instanceMethod yX1_forget, Cond.selects RX1 yX1_forget yX1_forget, Cond.code yX1_forget cX1_forget 4 none, Cond.fieldLink RX1 33 "SixNumbers$Heap" "found" "[[I", Cond.fieldLink RX1 28 "SixNumbers$Heap" "counts" "[[J", Cond.fieldLink RX1 39 "SixNumbers$Heap" "holders" "[I", Cond.methodLink RX1 55 yX1_knows, Cond.instanceMethod yX1_knows, Cond.selects RX1 yX1_knows yX1_knows, Cond.code yX1_knows cX1_knows 2 (some .boolean), Cond.fieldLink RX1 9 "SixNumbers$Heap" "size" "I"]
def wsX5_aim_r2 : List Cond := [Cond.methodLink RX1 59 yX1_make, Cond.instanceMethod yX1_make, Cond.selects RX1 yX1_make yX1_make, Cond.code yX1_make cX1_make 4 none, Cond.fieldLink RX1 22 "SixNumbers$Heap" "items" "[I", Cond.methodLink RX1 62 yX1_add, Cond.instanceMethod yX1_add, Cond.selects RX1 yX1_add yX1_add, Cond.code yX1_add cX1_add 6 none, Cond.methodLink RX1 66 yX1_join, Cond.instanceMethod yX1_join, Cond.selects RX1 yX1_join yX1_join, Cond.code yX1_join cX1_join 14 none, Cond.fieldLink RX1 18 "SixNumbers$Heap" "rules" "LSixNumbers$Rules;", Cond.methodLink RX1 78 Lib.Math.abs.name, Cond.static Lib.Math.abs.name, Cond.initialized "java/lang/Math", Cond.code Lib.Math.abs.name Lib.Math.abs.code 1 (some .int), Cond.methodLink RX1 70 yX3_allow, Cond.instanceMethod yX3_allow, Cond.selects RX3 yX3_allow yX3_allow, Cond.initialized RX3, Cond.code yX3_allow cX3_allow 2 (some .boolean), Cond.fieldLink RX3 9 "SixNumbers$Rules" "acts" "I"]
def wsX5_aim_r3 : List Cond := [Cond.methodLink RX5 121 yX1_reaches, Cond.instanceMethod yX1_reaches, Cond.selects RX1 yX1_reaches yX1_reaches, Cond.code yX1_reaches cX1_reaches 2 (some .boolean), Cond.methodLink RX5 124 yX1_firstSet, Cond.instanceMethod yX1_firstSet, Cond.selects RX1 yX1_firstSet yX1_firstSet, Cond.code yX1_firstSet cX1_firstSet 5 (some .int), Cond.methodLink RX1 82 yX1_countOf, Cond.instanceMethod yX1_countOf, Cond.selects RX1 yX1_countOf yX1_countOf, Cond.code yX1_countOf cX1_countOf 3 (some .long), Cond.methodLink RX1 93 yJ6_bitCount_0f7a4, Cond.static yJ6_bitCount_0f7a4, Cond.initialized RJ6, Cond.code yJ6_bitCount_0f7a4 cJ6_bitCount_0f7a4 1 (some .int), Cond.constant RJ6 265 (1431655765), Cond.constant RJ6 266 (858993459), Cond.constant RJ6 267 (252645135), Cond.methodLink RX5 127 yJ6_bitCount_0f7a4, Cond.methodLink RX5 132 yX1_nearest, Cond.instanceMethod yX1_nearest, Cond.selects RX1 yX1_nearest yX1_nearest, Cond.code yX1_nearest cX1_nearest 3 (some .int)]
def wsX5_aim_r4 : List Cond := [Cond.methodLink RX1 86 yX1_reaches]
def wsX5_aim : List Cond := .code yX5_aim cX5_aim 3 (some .int) :: ((wsX5_aim_r1 ++ (wsX5_aim_r2 ++ (wsX5_aim_r3 ++ wsX5_aim_r4))) ++ wsX50 ++ wsX10 ++ wsX30)
def wsJ0_isLatin1_aae02 : List Cond := .code yJ0_isLatin1_aae02 cJ0_isLatin1_aae02 1 (some .boolean) :: ([.fieldLink RJ0 38 "java/lang/String" "COMPACT_STRINGS" "Z", .fieldLink RJ0 15 "java/lang/String" "coder" "B"])
def wsJ3_checkIndex_8e157 : List Cond := .code yJ3_checkIndex_8e157 cJ3_checkIndex_8e157 3 (some .int) :: ([])
def wsJ0_checkIndex_df160 : List Cond := .code yJ0_checkIndex_df160 cJ0_checkIndex_df160 2 none :: ([.fieldLink RJ0 1053 "jdk/internal/util/Preconditions" "SIOOBE_FORMATTER" "Ljava/util/function/BiFunction;", .methodLink RJ0 1059 yJ3_checkIndex_8e157, .static yJ3_checkIndex_8e157, .initialized RJ3, .code yJ3_checkIndex_8e157 cJ3_checkIndex_8e157 3 (some .int)])
def wsJ1_charAt_3b067 : List Cond := .code yJ1_charAt_3b067 cJ1_charAt_3b067 2 (some .char) :: ([.methodLink RJ1 9 yJ0_checkIndex_df160, .static yJ0_checkIndex_df160, .initialized RJ0, .code yJ0_checkIndex_df160 cJ0_checkIndex_df160 2 none, .fieldLink RJ0 1053 "jdk/internal/util/Preconditions" "SIOOBE_FORMATTER" "Ljava/util/function/BiFunction;", .methodLink RJ0 1059 yJ3_checkIndex_8e157, .static yJ3_checkIndex_8e157, .initialized RJ3, .code yJ3_checkIndex_8e157 cJ3_checkIndex_8e157 3 (some .int)])
def wsJ2_length_9d52b : List Cond := .code yJ2_length_9d52b cJ2_length_9d52b 1 (some .int) :: ([])
def wsJ2_checkIndex_2214a : List Cond := .code yJ2_checkIndex_2214a cJ2_checkIndex_2214a 2 none :: ([.methodLink RJ2 48 yJ2_length_9d52b, .static yJ2_length_9d52b, .initialized RJ2, .code yJ2_length_9d52b cJ2_length_9d52b 1 (some .int), .methodLink RJ2 414 yJ0_checkIndex_df160, .static yJ0_checkIndex_df160, .initialized RJ0, .code yJ0_checkIndex_df160 cJ0_checkIndex_df160 2 none, .fieldLink RJ0 1053 "jdk/internal/util/Preconditions" "SIOOBE_FORMATTER" "Ljava/util/function/BiFunction;", .methodLink RJ0 1059 yJ3_checkIndex_8e157, .static yJ3_checkIndex_8e157, .initialized RJ3, .code yJ3_checkIndex_8e157 cJ3_checkIndex_8e157 3 (some .int)])
def wsJ2_getChar_3b067 : List Cond := .code yJ2_getChar_3b067 cJ2_getChar_3b067 2 (some .char) :: ([.fieldLink RJ2 44 "java/lang/StringUTF16" "$assertionsDisabled" "Z", .fieldLink RJ2 59 "java/lang/StringUTF16" "HI_BYTE_SHIFT" "I", .fieldLink RJ2 63 "java/lang/StringUTF16" "LO_BYTE_SHIFT" "I", .methodLink RJ2 48 yJ2_length_9d52b, .static yJ2_length_9d52b, .initialized RJ2, .code yJ2_length_9d52b cJ2_length_9d52b 1 (some .int)])
def wsJ2_charAt_3b067 : List Cond := .code yJ2_charAt_3b067 cJ2_charAt_3b067 2 (some .char) :: ([.methodLink RJ2 67 yJ2_checkIndex_2214a, .static yJ2_checkIndex_2214a, .initialized RJ2, .code yJ2_checkIndex_2214a cJ2_checkIndex_2214a 2 none, .methodLink RJ2 48 yJ2_length_9d52b, .static yJ2_length_9d52b, .code yJ2_length_9d52b cJ2_length_9d52b 1 (some .int), .methodLink RJ2 414 yJ0_checkIndex_df160, .static yJ0_checkIndex_df160, .initialized RJ0, .code yJ0_checkIndex_df160 cJ0_checkIndex_df160 2 none, .fieldLink RJ0 1053 "jdk/internal/util/Preconditions" "SIOOBE_FORMATTER" "Ljava/util/function/BiFunction;", .methodLink RJ0 1059 yJ3_checkIndex_8e157, .static yJ3_checkIndex_8e157, .initialized RJ3, .code yJ3_checkIndex_8e157 cJ3_checkIndex_8e157 3 (some .int), .methodLink RJ2 71 yJ2_getChar_3b067, .static yJ2_getChar_3b067, .code yJ2_getChar_3b067 cJ2_getChar_3b067 2 (some .char), .fieldLink RJ2 44 "java/lang/StringUTF16" "$assertionsDisabled" "Z", .fieldLink RJ2 59 "java/lang/StringUTF16" "HI_BYTE_SHIFT" "I", .fieldLink RJ2 63 "java/lang/StringUTF16" "LO_BYTE_SHIFT" "I"])
def wsJ0_charAt_5068e_r1 : List Cond := [Cond.fieldLink RJ0 9 "java/lang/String" "value" "[B", Cond.methodLink RJ0 492 yJ0_isLatin1_aae02, Cond.instanceMethod yJ0_isLatin1_aae02, Cond.selects RJ0 yJ0_isLatin1_aae02 yJ0_isLatin1_aae02, Cond.initialized RJ0, Cond.code yJ0_isLatin1_aae02 cJ0_isLatin1_aae02 1 (some .boolean), Cond.fieldLink RJ0 38 "java/lang/String" "COMPACT_STRINGS" "Z", Cond.fieldLink RJ0 15 "java/lang/String" "coder" "B", Cond.methodLink RJ0 495 yJ1_charAt_3b067, Cond.static yJ1_charAt_3b067, Cond.initialized RJ1, Cond.code yJ1_charAt_3b067 cJ1_charAt_3b067 2 (some .char), Cond.methodLink RJ1 9 yJ0_checkIndex_df160, Cond.static yJ0_checkIndex_df160, Cond.code yJ0_checkIndex_df160 cJ0_checkIndex_df160 2 none, Cond.fieldLink RJ0 1053 "jdk/internal/util/Preconditions" "SIOOBE_FORMATTER" "Ljava/util/function/BiFunction;", Cond.methodLink RJ0 1059 yJ3_checkIndex_8e157, Cond.static yJ3_checkIndex_8e157, Cond.initialized RJ3, Cond.code yJ3_checkIndex_8e157 cJ3_checkIndex_8e157 3 (some .int), Cond.methodLink RJ0 498 yJ2_charAt_3b067, Cond.static yJ2_charAt_3b067, Cond.initialized RJ2, Cond.code yJ2_charAt_3b067 cJ2_charAt_3b067 2 (some .char)]
def wsJ0_charAt_5068e_r2 : List Cond := [Cond.methodLink RJ2 67 yJ2_checkIndex_2214a, Cond.static yJ2_checkIndex_2214a, Cond.code yJ2_checkIndex_2214a cJ2_checkIndex_2214a 2 none, Cond.methodLink RJ2 48 yJ2_length_9d52b, Cond.static yJ2_length_9d52b, Cond.code yJ2_length_9d52b cJ2_length_9d52b 1 (some .int), Cond.methodLink RJ2 414 yJ0_checkIndex_df160, Cond.methodLink RJ2 71 yJ2_getChar_3b067, Cond.static yJ2_getChar_3b067, Cond.code yJ2_getChar_3b067 cJ2_getChar_3b067 2 (some .char), Cond.fieldLink RJ2 44 "java/lang/StringUTF16" "$assertionsDisabled" "Z", Cond.fieldLink RJ2 59 "java/lang/StringUTF16" "HI_BYTE_SHIFT" "I", Cond.fieldLink RJ2 63 "java/lang/StringUTF16" "LO_BYTE_SHIFT" "I"]
def wsJ0_charAt_5068e : List Cond := .code yJ0_charAt_5068e cJ0_charAt_5068e 2 (some .char) :: ((wsJ0_charAt_5068e_r1 ++ wsJ0_charAt_5068e_r2))
def wsX5_writeFirstWay_r1 : List Cond := [Cond.methodLink RX5 127 yJ6_bitCount_0f7a4, Cond.static yJ6_bitCount_0f7a4, Cond.initialized RJ6, Cond.code yJ6_bitCount_0f7a4 cJ6_bitCount_0f7a4 1 (some .int), Cond.constant RJ6 265 (1431655765), Cond.constant RJ6 266 (858993459), Cond.constant RJ6 267 (252645135), Cond.methodLink RX5 172 yX2_addNumber, Cond.instanceMethod yX2_addNumber, Cond.selects RX2 yX2_addNumber yX2_addNumber, Cond.initialized RX2, Cond.code yX2_addNumber cX2_addNumber 3 none, Cond.methodLink RX2 19 yX2_add, Cond.instanceMethod yX2_add, Cond.selects RX2 yX2_add yX2_add, Cond.code yX2_add cX2_add 2 none, Cond.fieldLink RX2 15 "SixNumbers$Out" "length" "I", Cond.fieldLink RX2 9 "SixNumbers$Out" "text" "[C", Cond.methodLink RX5 175 yX1_leastLeftNumber, Cond.instanceMethod yX1_leastLeftNumber, Cond.selects RX1 yX1_leastLeftNumber yX1_leastLeftNumber, Cond.initialized RX1, Cond.code yX1_leastLeftNumber cX1_leastLeftNumber 11 (some .int), Cond.fieldLink RX1 18 "SixNumbers$Heap" "rules" "LSixNumbers$Rules;"]
def wsX5_writeFirstWay_r2 : List Cond := [Cond.fieldLink RX1 36 "SixNumbers$Heap" "founds" "[I", Cond.fieldLink RX1 33 "SixNumbers$Heap" "found" "[[I", Cond.methodLink RX1 70 yX3_allow, Cond.instanceMethod yX3_allow, Cond.selects RX3 yX3_allow yX3_allow, Cond.initialized RX3, Cond.code yX3_allow cX3_allow 2 (some .boolean), Cond.fieldLink RX3 9 "SixNumbers$Rules" "acts" "I", Cond.static yX5_rightNumber, Cond.initialized RX5, Cond.code yX5_rightNumber cX5_rightNumber 3 (some .int), Cond.methodLink RX1 82 yX1_countOf, Cond.instanceMethod yX1_countOf, Cond.selects RX1 yX1_countOf yX1_countOf, Cond.code yX1_countOf cX1_countOf 3 (some .long), Cond.fieldLink RX1 28 "SixNumbers$Heap" "counts" "[[J", Cond.methodLink RX5 179 yX2_add, Cond.methodLink RX5 168 yX5_writeFirstWay, Cond.static yX5_writeFirstWay, Cond.methodLink RX5 185 yJ0_charAt_5068e, Cond.instanceMethod yJ0_charAt_5068e, Cond.selects RJ0 yJ0_charAt_5068e yJ0_charAt_5068e, Cond.initialized RJ0, Cond.code yJ0_charAt_5068e cJ0_charAt_5068e 2 (some .char)]
def wsX5_writeFirstWay_r3 : List Cond := [Cond.fieldLink RJ0 9 "java/lang/String" "value" "[B", Cond.methodLink RJ0 492 yJ0_isLatin1_aae02, Cond.instanceMethod yJ0_isLatin1_aae02, Cond.selects RJ0 yJ0_isLatin1_aae02 yJ0_isLatin1_aae02, Cond.code yJ0_isLatin1_aae02 cJ0_isLatin1_aae02 1 (some .boolean), Cond.fieldLink RJ0 38 "java/lang/String" "COMPACT_STRINGS" "Z", Cond.fieldLink RJ0 15 "java/lang/String" "coder" "B", Cond.methodLink RJ0 495 yJ1_charAt_3b067, Cond.static yJ1_charAt_3b067, Cond.initialized RJ1, Cond.code yJ1_charAt_3b067 cJ1_charAt_3b067 2 (some .char), Cond.methodLink RJ1 9 yJ0_checkIndex_df160, Cond.static yJ0_checkIndex_df160, Cond.code yJ0_checkIndex_df160 cJ0_checkIndex_df160 2 none, Cond.fieldLink RJ0 1053 "jdk/internal/util/Preconditions" "SIOOBE_FORMATTER" "Ljava/util/function/BiFunction;", Cond.methodLink RJ0 1059 yJ3_checkIndex_8e157, Cond.static yJ3_checkIndex_8e157, Cond.initialized RJ3, Cond.code yJ3_checkIndex_8e157 cJ3_checkIndex_8e157 3 (some .int), Cond.methodLink RJ0 498 yJ2_charAt_3b067, Cond.static yJ2_charAt_3b067, Cond.initialized RJ2, Cond.code yJ2_charAt_3b067 cJ2_charAt_3b067 2 (some .char), Cond.methodLink RJ2 67 yJ2_checkIndex_2214a]
def wsX5_writeFirstWay_r4 : List Cond := [Cond.static yJ2_checkIndex_2214a, Cond.code yJ2_checkIndex_2214a cJ2_checkIndex_2214a 2 none, Cond.methodLink RJ2 48 yJ2_length_9d52b, Cond.static yJ2_length_9d52b, Cond.code yJ2_length_9d52b cJ2_length_9d52b 1 (some .int), Cond.methodLink RJ2 414 yJ0_checkIndex_df160, Cond.methodLink RJ2 71 yJ2_getChar_3b067, Cond.static yJ2_getChar_3b067, Cond.code yJ2_getChar_3b067 cJ2_getChar_3b067 2 (some .char), Cond.fieldLink RJ2 44 "java/lang/StringUTF16" "$assertionsDisabled" "Z", Cond.fieldLink RJ2 59 "java/lang/StringUTF16" "HI_BYTE_SHIFT" "I", Cond.fieldLink RJ2 63 "java/lang/StringUTF16" "LO_BYTE_SHIFT" "I", Cond.methodLink RX5 191 yX5_rightNumber]
def wsX5_writeFirstWay : List Cond := .code yX5_writeFirstWay cX5_writeFirstWay 8 none :: ((wsX5_writeFirstWay_r1 ++ (wsX5_writeFirstWay_r2 ++ (wsX5_writeFirstWay_r3 ++ wsX5_writeFirstWay_r4))) ++ wsX20 ++ wsX10 ++ wsX30)
def wsX5_printWay_r1 : List Cond := [Cond.fieldLink RX5 40 "SixNumbers" "bytes" "LSixNumbers$Out;", Cond.fieldLink RX5 21 "SixNumbers" "heap" "LSixNumbers$Heap;", Cond.methodLink RX5 168 yX5_writeFirstWay, Cond.static yX5_writeFirstWay, Cond.initialized RX5, Cond.code yX5_writeFirstWay cX5_writeFirstWay 8 none, Cond.methodLink RX5 127 yJ6_bitCount_0f7a4, Cond.static yJ6_bitCount_0f7a4, Cond.initialized RJ6, Cond.code yJ6_bitCount_0f7a4 cJ6_bitCount_0f7a4 1 (some .int), Cond.constant RJ6 265 (1431655765), Cond.constant RJ6 266 (858993459), Cond.constant RJ6 267 (252645135), Cond.methodLink RX5 172 yX2_addNumber, Cond.instanceMethod yX2_addNumber, Cond.selects RX2 yX2_addNumber yX2_addNumber, Cond.initialized RX2, Cond.code yX2_addNumber cX2_addNumber 3 none, Cond.methodLink RX2 19 yX2_add, Cond.instanceMethod yX2_add, Cond.selects RX2 yX2_add yX2_add, Cond.code yX2_add cX2_add 2 none, Cond.fieldLink RX2 15 "SixNumbers$Out" "length" "I", Cond.fieldLink RX2 9 "SixNumbers$Out" "text" "[C"]
def wsX5_printWay_r2 : List Cond := [Cond.methodLink RX5 175 yX1_leastLeftNumber, Cond.instanceMethod yX1_leastLeftNumber, Cond.selects RX1 yX1_leastLeftNumber yX1_leastLeftNumber, Cond.initialized RX1, Cond.code yX1_leastLeftNumber cX1_leastLeftNumber 11 (some .int), Cond.fieldLink RX1 18 "SixNumbers$Heap" "rules" "LSixNumbers$Rules;", Cond.fieldLink RX1 36 "SixNumbers$Heap" "founds" "[I", Cond.fieldLink RX1 33 "SixNumbers$Heap" "found" "[[I", Cond.methodLink RX1 70 yX3_allow, Cond.instanceMethod yX3_allow, Cond.selects RX3 yX3_allow yX3_allow, Cond.initialized RX3, Cond.code yX3_allow cX3_allow 2 (some .boolean), Cond.fieldLink RX3 9 "SixNumbers$Rules" "acts" "I", Cond.static yX5_rightNumber, Cond.code yX5_rightNumber cX5_rightNumber 3 (some .int), Cond.methodLink RX1 82 yX1_countOf, Cond.instanceMethod yX1_countOf, Cond.selects RX1 yX1_countOf yX1_countOf, Cond.code yX1_countOf cX1_countOf 3 (some .long), Cond.fieldLink RX1 28 "SixNumbers$Heap" "counts" "[[J", Cond.methodLink RX5 179 yX2_add, Cond.methodLink RX5 185 yJ0_charAt_5068e, Cond.instanceMethod yJ0_charAt_5068e]
def wsX5_printWay_r3 : List Cond := [Cond.selects RJ0 yJ0_charAt_5068e yJ0_charAt_5068e, Cond.initialized RJ0, Cond.code yJ0_charAt_5068e cJ0_charAt_5068e 2 (some .char), Cond.fieldLink RJ0 9 "java/lang/String" "value" "[B", Cond.methodLink RJ0 492 yJ0_isLatin1_aae02, Cond.instanceMethod yJ0_isLatin1_aae02, Cond.selects RJ0 yJ0_isLatin1_aae02 yJ0_isLatin1_aae02, Cond.code yJ0_isLatin1_aae02 cJ0_isLatin1_aae02 1 (some .boolean), Cond.fieldLink RJ0 38 "java/lang/String" "COMPACT_STRINGS" "Z", Cond.fieldLink RJ0 15 "java/lang/String" "coder" "B", Cond.methodLink RJ0 495 yJ1_charAt_3b067, Cond.static yJ1_charAt_3b067, Cond.initialized RJ1, Cond.code yJ1_charAt_3b067 cJ1_charAt_3b067 2 (some .char), Cond.methodLink RJ1 9 yJ0_checkIndex_df160, Cond.static yJ0_checkIndex_df160, Cond.code yJ0_checkIndex_df160 cJ0_checkIndex_df160 2 none, Cond.fieldLink RJ0 1053 "jdk/internal/util/Preconditions" "SIOOBE_FORMATTER" "Ljava/util/function/BiFunction;", Cond.methodLink RJ0 1059 yJ3_checkIndex_8e157, Cond.static yJ3_checkIndex_8e157, Cond.initialized RJ3, Cond.code yJ3_checkIndex_8e157 cJ3_checkIndex_8e157 3 (some .int), Cond.methodLink RJ0 498 yJ2_charAt_3b067, Cond.static yJ2_charAt_3b067]
def wsX5_printWay_r4 : List Cond := [Cond.initialized RJ2, Cond.code yJ2_charAt_3b067 cJ2_charAt_3b067 2 (some .char), Cond.methodLink RJ2 67 yJ2_checkIndex_2214a, Cond.static yJ2_checkIndex_2214a, Cond.code yJ2_checkIndex_2214a cJ2_checkIndex_2214a 2 none, Cond.methodLink RJ2 48 yJ2_length_9d52b, Cond.static yJ2_length_9d52b, Cond.code yJ2_length_9d52b cJ2_length_9d52b 1 (some .int), Cond.methodLink RJ2 414 yJ0_checkIndex_df160, Cond.methodLink RJ2 71 yJ2_getChar_3b067, Cond.static yJ2_getChar_3b067, Cond.code yJ2_getChar_3b067 cJ2_getChar_3b067 2 (some .char), Cond.fieldLink RJ2 44 "java/lang/StringUTF16" "$assertionsDisabled" "Z", Cond.fieldLink RJ2 59 "java/lang/StringUTF16" "HI_BYTE_SHIFT" "I", Cond.fieldLink RJ2 63 "java/lang/StringUTF16" "LO_BYTE_SHIFT" "I", Cond.methodLink RX5 191 yX5_rightNumber]
def wsX5_printWay : List Cond := .code yX5_printWay cX5_printWay 3 (some .int) :: ((wsX5_printWay_r1 ++ (wsX5_printWay_r2 ++ (wsX5_printWay_r3 ++ wsX5_printWay_r4))) ++ wsX50 ++ wsX20 ++ wsX10 ++ wsX30)
def wsX5_print_r1 : List Cond := [Cond.fieldLink RX5 21 "SixNumbers" "heap" "LSixNumbers$Heap;", Cond.methodLink RX5 51 yX5_isOutside, Cond.static yX5_isOutside, Cond.initialized RX5, Cond.code yX5_isOutside cX5_isOutside 3 (some .boolean), Cond.methodLink RX5 96 yX1_refresh, Cond.instanceMethod yX1_refresh, Cond.selects RX1 yX1_refresh yX1_refresh, Cond.initialized RX1, Cond.code yX1_refresh cX1_refresh 2 none, Cond.fieldLink RX1 15 "SixNumbers$Heap" "changed" "I", Cond.fieldLink RX1 36 "SixNumbers$Heap" "founds" "[I", Cond.methodLink RX1 51 yX1_forget, Cond.instanceMethod yX1_forget, Cond.selects RX1 yX1_forget yX1_forget, Cond.code yX1_forget cX1_forget 4 none, Cond.fieldLink RX1 33 "SixNumbers$Heap" "found" "[[I", Cond.fieldLink RX1 28 "SixNumbers$Heap" "counts" "[[J", Cond.fieldLink RX1 39 "SixNumbers$Heap" "holders" "[I", Cond.methodLink RX1 55 yX1_knows, Cond.instanceMethod yX1_knows, Cond.selects RX1 yX1_knows yX1_knows, Cond.code yX1_knows cX1_knows 2 (some .boolean), Cond.fieldLink RX1 9 "SixNumbers$Heap" "size" "I"]
def wsX5_print_r2 : List Cond := [Cond.methodLink RX1 59 yX1_make, Cond.instanceMethod yX1_make, Cond.selects RX1 yX1_make yX1_make, Cond.code yX1_make cX1_make 4 none, Cond.fieldLink RX1 22 "SixNumbers$Heap" "items" "[I", Cond.methodLink RX1 62 yX1_add, Cond.instanceMethod yX1_add, Cond.selects RX1 yX1_add yX1_add, Cond.code yX1_add cX1_add 6 none, Cond.methodLink RX1 66 yX1_join, Cond.instanceMethod yX1_join, Cond.selects RX1 yX1_join yX1_join, Cond.code yX1_join cX1_join 14 none, Cond.fieldLink RX1 18 "SixNumbers$Heap" "rules" "LSixNumbers$Rules;", Cond.methodLink RX1 78 Lib.Math.abs.name, Cond.static Lib.Math.abs.name, Cond.initialized "java/lang/Math", Cond.code Lib.Math.abs.name Lib.Math.abs.code 1 (some .int), Cond.methodLink RX1 70 yX3_allow, Cond.instanceMethod yX3_allow, Cond.selects RX3 yX3_allow yX3_allow, Cond.initialized RX3, Cond.code yX3_allow cX3_allow 2 (some .boolean), Cond.fieldLink RX3 9 "SixNumbers$Rules" "acts" "I"]
def wsX5_print_r3 : List Cond := [Cond.methodLink RX5 121 yX1_reaches, Cond.instanceMethod yX1_reaches, Cond.selects RX1 yX1_reaches yX1_reaches, Cond.code yX1_reaches cX1_reaches 2 (some .boolean), Cond.methodLink RX5 124 yX1_firstSet, Cond.instanceMethod yX1_firstSet, Cond.selects RX1 yX1_firstSet yX1_firstSet, Cond.code yX1_firstSet cX1_firstSet 5 (some .int), Cond.methodLink RX1 82 yX1_countOf, Cond.instanceMethod yX1_countOf, Cond.selects RX1 yX1_countOf yX1_countOf, Cond.code yX1_countOf cX1_countOf 3 (some .long), Cond.methodLink RX1 93 yJ6_bitCount_0f7a4, Cond.static yJ6_bitCount_0f7a4, Cond.initialized RJ6, Cond.code yJ6_bitCount_0f7a4 cJ6_bitCount_0f7a4 1 (some .int), Cond.constant RJ6 265 (1431655765), Cond.constant RJ6 266 (858993459), Cond.constant RJ6 267 (252645135), Cond.methodLink RX5 135 yX5_printWay, Cond.instanceMethod yX5_printWay, Cond.selects RX5 yX5_printWay yX5_printWay, Cond.code yX5_printWay cX5_printWay 3 (some .int), Cond.fieldLink RX5 40 "SixNumbers" "bytes" "LSixNumbers$Out;"]
def wsX5_print_r4 : List Cond := [Cond.methodLink RX5 168 yX5_writeFirstWay, Cond.static yX5_writeFirstWay, Cond.code yX5_writeFirstWay cX5_writeFirstWay 8 none, Cond.methodLink RX5 127 yJ6_bitCount_0f7a4, Cond.methodLink RX5 172 yX2_addNumber, Cond.instanceMethod yX2_addNumber, Cond.selects RX2 yX2_addNumber yX2_addNumber, Cond.initialized RX2, Cond.code yX2_addNumber cX2_addNumber 3 none, Cond.methodLink RX2 19 yX2_add, Cond.instanceMethod yX2_add, Cond.selects RX2 yX2_add yX2_add, Cond.code yX2_add cX2_add 2 none, Cond.fieldLink RX2 15 "SixNumbers$Out" "length" "I", Cond.fieldLink RX2 9 "SixNumbers$Out" "text" "[C", Cond.methodLink RX5 175 yX1_leastLeftNumber, Cond.instanceMethod yX1_leastLeftNumber, Cond.selects RX1 yX1_leastLeftNumber yX1_leastLeftNumber, Cond.code yX1_leastLeftNumber cX1_leastLeftNumber 11 (some .int), Cond.static yX5_rightNumber, Cond.code yX5_rightNumber cX5_rightNumber 3 (some .int), Cond.methodLink RX5 179 yX2_add, Cond.methodLink RX5 185 yJ0_charAt_5068e, Cond.instanceMethod yJ0_charAt_5068e]
def wsX5_print_r5 : List Cond := [Cond.selects RJ0 yJ0_charAt_5068e yJ0_charAt_5068e, Cond.initialized RJ0, Cond.code yJ0_charAt_5068e cJ0_charAt_5068e 2 (some .char), Cond.fieldLink RJ0 9 "java/lang/String" "value" "[B", Cond.methodLink RJ0 492 yJ0_isLatin1_aae02, Cond.instanceMethod yJ0_isLatin1_aae02, Cond.selects RJ0 yJ0_isLatin1_aae02 yJ0_isLatin1_aae02, Cond.code yJ0_isLatin1_aae02 cJ0_isLatin1_aae02 1 (some .boolean), Cond.fieldLink RJ0 38 "java/lang/String" "COMPACT_STRINGS" "Z", Cond.fieldLink RJ0 15 "java/lang/String" "coder" "B", Cond.methodLink RJ0 495 yJ1_charAt_3b067, Cond.static yJ1_charAt_3b067, Cond.initialized RJ1, Cond.code yJ1_charAt_3b067 cJ1_charAt_3b067 2 (some .char), Cond.methodLink RJ1 9 yJ0_checkIndex_df160, Cond.static yJ0_checkIndex_df160, Cond.code yJ0_checkIndex_df160 cJ0_checkIndex_df160 2 none, Cond.fieldLink RJ0 1053 "jdk/internal/util/Preconditions" "SIOOBE_FORMATTER" "Ljava/util/function/BiFunction;", Cond.methodLink RJ0 1059 yJ3_checkIndex_8e157, Cond.static yJ3_checkIndex_8e157, Cond.initialized RJ3, Cond.code yJ3_checkIndex_8e157 cJ3_checkIndex_8e157 3 (some .int), Cond.methodLink RJ0 498 yJ2_charAt_3b067, Cond.static yJ2_charAt_3b067]
def wsX5_print_r6 : List Cond := [Cond.initialized RJ2, Cond.code yJ2_charAt_3b067 cJ2_charAt_3b067 2 (some .char), Cond.methodLink RJ2 67 yJ2_checkIndex_2214a, Cond.static yJ2_checkIndex_2214a, Cond.code yJ2_checkIndex_2214a cJ2_checkIndex_2214a 2 none, Cond.methodLink RJ2 48 yJ2_length_9d52b, Cond.static yJ2_length_9d52b, Cond.code yJ2_length_9d52b cJ2_length_9d52b 1 (some .int), Cond.methodLink RJ2 414 yJ0_checkIndex_df160, Cond.methodLink RJ2 71 yJ2_getChar_3b067, Cond.static yJ2_getChar_3b067, Cond.code yJ2_getChar_3b067 cJ2_getChar_3b067 2 (some .char), Cond.fieldLink RJ2 44 "java/lang/StringUTF16" "$assertionsDisabled" "Z", Cond.fieldLink RJ2 59 "java/lang/StringUTF16" "HI_BYTE_SHIFT" "I", Cond.fieldLink RJ2 63 "java/lang/StringUTF16" "LO_BYTE_SHIFT" "I", Cond.methodLink RX5 191 yX5_rightNumber]
def wsX5_print : List Cond := .code yX5_print cX5_print 2 (some .int) :: ((wsX5_print_r1 ++ (wsX5_print_r2 ++ (wsX5_print_r3 ++ (wsX5_print_r4 ++ (wsX5_print_r5 ++ wsX5_print_r6))))) ++ wsX50 ++ wsX10 ++ wsX30 ++ wsX20)
def wsX5_printOf_r1 : List Cond := [Cond.fieldLink RX5 21 "SixNumbers" "heap" "LSixNumbers$Heap;", Cond.methodLink RX5 90 yX5_isNoWholeSet, Cond.instanceMethod yX5_isNoWholeSet, Cond.selects RX5 yX5_isNoWholeSet yX5_isNoWholeSet, Cond.initialized RX5, Cond.code yX5_isNoWholeSet cX5_isNoWholeSet 2 (some .boolean), Cond.methodLink RX5 107 yX1_knows, Cond.instanceMethod yX1_knows, Cond.selects RX1 yX1_knows yX1_knows, Cond.initialized RX1, Cond.code yX1_knows cX1_knows 2 (some .boolean), Cond.fieldLink RX1 9 "SixNumbers$Heap" "size" "I", Cond.methodLink RX5 51 yX5_isOutside, Cond.static yX5_isOutside, Cond.code yX5_isOutside cX5_isOutside 3 (some .boolean), Cond.methodLink RX5 96 yX1_refresh, Cond.instanceMethod yX1_refresh, Cond.selects RX1 yX1_refresh yX1_refresh, Cond.code yX1_refresh cX1_refresh 2 none, Cond.fieldLink RX1 15 "SixNumbers$Heap" "changed" "I", Cond.fieldLink RX1 36 "SixNumbers$Heap" "founds" "[I", Cond.methodLink RX1 51 yX1_forget, Cond.instanceMethod yX1_forget, Cond.selects RX1 yX1_forget yX1_forget]
def wsX5_printOf_r2 : List Cond := [Cond.code yX1_forget cX1_forget 4 none, Cond.fieldLink RX1 33 "SixNumbers$Heap" "found" "[[I", Cond.fieldLink RX1 28 "SixNumbers$Heap" "counts" "[[J", Cond.fieldLink RX1 39 "SixNumbers$Heap" "holders" "[I", Cond.methodLink RX1 55 yX1_knows, Cond.methodLink RX1 59 yX1_make, Cond.instanceMethod yX1_make, Cond.selects RX1 yX1_make yX1_make, Cond.code yX1_make cX1_make 4 none, Cond.fieldLink RX1 22 "SixNumbers$Heap" "items" "[I", Cond.methodLink RX1 62 yX1_add, Cond.instanceMethod yX1_add, Cond.selects RX1 yX1_add yX1_add, Cond.code yX1_add cX1_add 6 none, Cond.methodLink RX1 66 yX1_join, Cond.instanceMethod yX1_join, Cond.selects RX1 yX1_join yX1_join, Cond.code yX1_join cX1_join 14 none, Cond.fieldLink RX1 18 "SixNumbers$Heap" "rules" "LSixNumbers$Rules;", Cond.methodLink RX1 78 Lib.Math.abs.name, Cond.static Lib.Math.abs.name, Cond.initialized "java/lang/Math", Cond.code Lib.Math.abs.name Lib.Math.abs.code 1 (some .int), Cond.methodLink RX1 70 yX3_allow]
def wsX5_printOf_r3 : List Cond := [Cond.instanceMethod yX3_allow, Cond.selects RX3 yX3_allow yX3_allow, Cond.initialized RX3, Cond.code yX3_allow cX3_allow 2 (some .boolean), Cond.fieldLink RX3 9 "SixNumbers$Rules" "acts" "I", Cond.methodLink RX5 99 yX1_countOf, Cond.instanceMethod yX1_countOf, Cond.selects RX1 yX1_countOf yX1_countOf, Cond.code yX1_countOf cX1_countOf 3 (some .long), Cond.methodLink RX5 135 yX5_printWay, Cond.instanceMethod yX5_printWay, Cond.selects RX5 yX5_printWay yX5_printWay, Cond.code yX5_printWay cX5_printWay 3 (some .int), Cond.fieldLink RX5 40 "SixNumbers" "bytes" "LSixNumbers$Out;", Cond.methodLink RX5 168 yX5_writeFirstWay, Cond.static yX5_writeFirstWay, Cond.code yX5_writeFirstWay cX5_writeFirstWay 8 none, Cond.methodLink RX5 127 yJ6_bitCount_0f7a4, Cond.static yJ6_bitCount_0f7a4, Cond.initialized RJ6, Cond.code yJ6_bitCount_0f7a4 cJ6_bitCount_0f7a4 1 (some .int), Cond.constant RJ6 265 (1431655765), Cond.constant RJ6 266 (858993459), Cond.constant RJ6 267 (252645135)]
def wsX5_printOf_r4 : List Cond := [Cond.methodLink RX5 172 yX2_addNumber, Cond.instanceMethod yX2_addNumber, Cond.selects RX2 yX2_addNumber yX2_addNumber, Cond.initialized RX2, Cond.code yX2_addNumber cX2_addNumber 3 none, Cond.methodLink RX2 19 yX2_add, Cond.instanceMethod yX2_add, Cond.selects RX2 yX2_add yX2_add, Cond.code yX2_add cX2_add 2 none, Cond.fieldLink RX2 15 "SixNumbers$Out" "length" "I", Cond.fieldLink RX2 9 "SixNumbers$Out" "text" "[C", Cond.methodLink RX5 175 yX1_leastLeftNumber, Cond.instanceMethod yX1_leastLeftNumber, Cond.selects RX1 yX1_leastLeftNumber yX1_leastLeftNumber, Cond.code yX1_leastLeftNumber cX1_leastLeftNumber 11 (some .int), Cond.static yX5_rightNumber, Cond.code yX5_rightNumber cX5_rightNumber 3 (some .int), Cond.methodLink RX1 82 yX1_countOf, Cond.methodLink RX5 179 yX2_add, Cond.methodLink RX5 185 yJ0_charAt_5068e, Cond.instanceMethod yJ0_charAt_5068e, Cond.selects RJ0 yJ0_charAt_5068e yJ0_charAt_5068e, Cond.initialized RJ0, Cond.code yJ0_charAt_5068e cJ0_charAt_5068e 2 (some .char)]
def wsX5_printOf_r5 : List Cond := [Cond.fieldLink RJ0 9 "java/lang/String" "value" "[B", Cond.methodLink RJ0 492 yJ0_isLatin1_aae02, Cond.instanceMethod yJ0_isLatin1_aae02, Cond.selects RJ0 yJ0_isLatin1_aae02 yJ0_isLatin1_aae02, Cond.code yJ0_isLatin1_aae02 cJ0_isLatin1_aae02 1 (some .boolean), Cond.fieldLink RJ0 38 "java/lang/String" "COMPACT_STRINGS" "Z", Cond.fieldLink RJ0 15 "java/lang/String" "coder" "B", Cond.methodLink RJ0 495 yJ1_charAt_3b067, Cond.static yJ1_charAt_3b067, Cond.initialized RJ1, Cond.code yJ1_charAt_3b067 cJ1_charAt_3b067 2 (some .char), Cond.methodLink RJ1 9 yJ0_checkIndex_df160, Cond.static yJ0_checkIndex_df160, Cond.code yJ0_checkIndex_df160 cJ0_checkIndex_df160 2 none, Cond.fieldLink RJ0 1053 "jdk/internal/util/Preconditions" "SIOOBE_FORMATTER" "Ljava/util/function/BiFunction;", Cond.methodLink RJ0 1059 yJ3_checkIndex_8e157, Cond.static yJ3_checkIndex_8e157, Cond.initialized RJ3, Cond.code yJ3_checkIndex_8e157 cJ3_checkIndex_8e157 3 (some .int), Cond.methodLink RJ0 498 yJ2_charAt_3b067, Cond.static yJ2_charAt_3b067, Cond.initialized RJ2, Cond.code yJ2_charAt_3b067 cJ2_charAt_3b067 2 (some .char), Cond.methodLink RJ2 67 yJ2_checkIndex_2214a]
def wsX5_printOf_r6 : List Cond := [Cond.static yJ2_checkIndex_2214a, Cond.code yJ2_checkIndex_2214a cJ2_checkIndex_2214a 2 none, Cond.methodLink RJ2 48 yJ2_length_9d52b, Cond.static yJ2_length_9d52b, Cond.code yJ2_length_9d52b cJ2_length_9d52b 1 (some .int), Cond.methodLink RJ2 414 yJ0_checkIndex_df160, Cond.methodLink RJ2 71 yJ2_getChar_3b067, Cond.static yJ2_getChar_3b067, Cond.code yJ2_getChar_3b067 cJ2_getChar_3b067 2 (some .char), Cond.fieldLink RJ2 44 "java/lang/StringUTF16" "$assertionsDisabled" "Z", Cond.fieldLink RJ2 59 "java/lang/StringUTF16" "HI_BYTE_SHIFT" "I", Cond.fieldLink RJ2 63 "java/lang/StringUTF16" "LO_BYTE_SHIFT" "I", Cond.methodLink RX5 191 yX5_rightNumber]
def wsX5_printOf : List Cond := .code yX5_printOf cX5_printOf 3 (some .int) :: ((wsX5_printOf_r1 ++ (wsX5_printOf_r2 ++ (wsX5_printOf_r3 ++ (wsX5_printOf_r4 ++ (wsX5_printOf_r5 ++ wsX5_printOf_r6))))) ++ wsX50 ++ wsX10 ++ wsX30 ++ wsX20)
def wsX5_out : List Cond := .code yX5_out cX5_out 2 (some .int) :: ([.fieldLink RX5 40 "SixNumbers" "bytes" "LSixNumbers$Out;", .methodLink RX5 138 yX2_byteAt, .instanceMethod yX2_byteAt, .selects RX2 yX2_byteAt yX2_byteAt, .initialized RX2, .code yX2_byteAt cX2_byteAt 2 (some .int), .fieldLink RX2 15 "SixNumbers$Out" "length" "I", .fieldLink RX2 9 "SixNumbers$Out" "text" "[C"] ++ wsX50 ++ wsX20)
def wsX5_card : List Cond := .code yX5_card cX5_card 2 (some .int) :: ([.fieldLink RX5 33 "SixNumbers" "box" "LSixNumbers$Box;", .methodLink RX5 51 yX5_isOutside, .static yX5_isOutside, .initialized RX5, .code yX5_isOutside cX5_isOutside 3 (some .boolean), .methodLink RX5 141 yX0_put, .instanceMethod yX0_put, .selects RX0 yX0_put yX0_put, .initialized RX0, .code yX0_put cX0_put 3 (some .int), .fieldLink RX0 15 "SixNumbers$Box" "size" "I", .fieldLink RX0 9 "SixNumbers$Box" "cards" "[I", .methodLink RX0 34 yX0_forgetTallies, .instanceMethod yX0_forgetTallies, .selects RX0 yX0_forgetTallies yX0_forgetTallies, .code yX0_forgetTallies cX0_forgetTallies 1 none, .fieldLink RX0 27 "SixNumbers$Box" "counted" "I"] ++ wsX50 ++ wsX00)
def wsX5_empty : List Cond := .code yX5_empty cX5_empty 1 (some .int) :: ([.fieldLink RX5 33 "SixNumbers" "box" "LSixNumbers$Box;", .methodLink RX5 144 yX0_clear, .instanceMethod yX0_clear, .selects RX0 yX0_clear yX0_clear, .initialized RX0, .code yX0_clear cX0_clear 2 (some .int), .fieldLink RX0 15 "SixNumbers$Box" "size" "I", .methodLink RX0 34 yX0_forgetTallies, .instanceMethod yX0_forgetTallies, .selects RX0 yX0_forgetTallies yX0_forgetTallies, .code yX0_forgetTallies cX0_forgetTallies 1 none, .fieldLink RX0 27 "SixNumbers$Box" "counted" "I"] ++ wsX50 ++ wsX00)
def wsX5_greatestCommonDivisor : List Cond := .code yX5_greatestCommonDivisor cX5_greatestCommonDivisor 4 (some .int) :: ([.methodLink RX5 195 Lib.Math.min.name, .static Lib.Math.min.name, .initialized "java/lang/Math", .code Lib.Math.min.name Lib.Math.min.code 2 (some .int)])
def wsX5_draws_r1 : List Cond := [Cond.fieldLink RX5 33 "SixNumbers" "box" "LSixNumbers$Box;", Cond.methodLink RX5 51 yX5_isOutside, Cond.static yX5_isOutside, Cond.initialized RX5, Cond.code yX5_isOutside cX5_isOutside 3 (some .boolean), Cond.methodLink RX5 147 yX0_countDraws, Cond.instanceMethod yX0_countDraws, Cond.selects RX0 yX0_countDraws yX0_countDraws, Cond.initialized RX0, Cond.code yX0_countDraws cX0_countDraws 3 none, Cond.fieldLink RX0 27 "SixNumbers$Box" "counted" "I", Cond.fieldLink RX0 24 "SixNumbers$Box" "totals" "[I", Cond.fieldLink RX0 21 "SixNumbers$Box" "tallies" "[[I", Cond.fieldLink RX0 15 "SixNumbers$Box" "size" "I", Cond.methodLink RX0 37 yJ6_bitCount_0f7a4, Cond.static yJ6_bitCount_0f7a4, Cond.initialized RJ6, Cond.code yJ6_bitCount_0f7a4 cJ6_bitCount_0f7a4 1 (some .int), Cond.constant RJ6 265 (1431655765), Cond.constant RJ6 266 (858993459), Cond.constant RJ6 267 (252645135), Cond.methodLink RX0 43 yX0_countDraw, Cond.instanceMethod yX0_countDraw, Cond.selects RX0 yX0_countDraw yX0_countDraw]
def wsX5_draws_r2 : List Cond := [Cond.code yX0_countDraw cX0_countDraw 5 none, Cond.fieldLink RX0 30 "SixNumbers$Box" "trial" "LSixNumbers$Heap;", Cond.fieldLink RX0 9 "SixNumbers$Box" "cards" "[I", Cond.methodLink RX0 47 yX1_place, Cond.instanceMethod yX1_place, Cond.selects RX1 yX1_place yX1_place, Cond.initialized RX1, Cond.code yX1_place cX1_place 3 none, Cond.fieldLink RX1 9 "SixNumbers$Heap" "size" "I", Cond.fieldLink RX1 22 "SixNumbers$Heap" "items" "[I", Cond.methodLink RX1 42 Lib.Math.max.name, Cond.static Lib.Math.max.name, Cond.initialized "java/lang/Math", Cond.code Lib.Math.max.name Lib.Math.max.code 2 (some .int), Cond.fieldLink RX1 15 "SixNumbers$Heap" "changed" "I", Cond.methodLink RX0 53 yX1_shorten, Cond.instanceMethod yX1_shorten, Cond.selects RX1 yX1_shorten yX1_shorten, Cond.code yX1_shorten cX1_shorten 3 none, Cond.methodLink RX1 48 Lib.Math.min.name, Cond.static Lib.Math.min.name, Cond.code Lib.Math.min.name Lib.Math.min.code 2 (some .int), Cond.methodLink RX0 57 yX1_refresh, Cond.instanceMethod yX1_refresh]
def wsX5_draws_r3 : List Cond := [Cond.selects RX1 yX1_refresh yX1_refresh, Cond.code yX1_refresh cX1_refresh 2 none, Cond.fieldLink RX1 36 "SixNumbers$Heap" "founds" "[I", Cond.methodLink RX1 51 yX1_forget, Cond.instanceMethod yX1_forget, Cond.selects RX1 yX1_forget yX1_forget, Cond.code yX1_forget cX1_forget 4 none, Cond.fieldLink RX1 33 "SixNumbers$Heap" "found" "[[I", Cond.fieldLink RX1 28 "SixNumbers$Heap" "counts" "[[J", Cond.fieldLink RX1 39 "SixNumbers$Heap" "holders" "[I", Cond.methodLink RX1 55 yX1_knows, Cond.instanceMethod yX1_knows, Cond.selects RX1 yX1_knows yX1_knows, Cond.code yX1_knows cX1_knows 2 (some .boolean), Cond.methodLink RX1 59 yX1_make, Cond.instanceMethod yX1_make, Cond.selects RX1 yX1_make yX1_make, Cond.code yX1_make cX1_make 4 none, Cond.methodLink RX1 62 yX1_add, Cond.instanceMethod yX1_add, Cond.selects RX1 yX1_add yX1_add, Cond.code yX1_add cX1_add 6 none, Cond.methodLink RX1 66 yX1_join, Cond.instanceMethod yX1_join]
def wsX5_draws_r4 : List Cond := [Cond.selects RX1 yX1_join yX1_join, Cond.code yX1_join cX1_join 14 none, Cond.fieldLink RX1 18 "SixNumbers$Heap" "rules" "LSixNumbers$Rules;", Cond.methodLink RX1 78 Lib.Math.abs.name, Cond.static Lib.Math.abs.name, Cond.code Lib.Math.abs.name Lib.Math.abs.code 1 (some .int), Cond.methodLink RX1 70 yX3_allow, Cond.instanceMethod yX3_allow, Cond.selects RX3 yX3_allow yX3_allow, Cond.initialized RX3, Cond.code yX3_allow cX3_allow 2 (some .boolean), Cond.fieldLink RX3 9 "SixNumbers$Rules" "acts" "I", Cond.methodLink RX0 60 yX1_reaches, Cond.instanceMethod yX1_reaches, Cond.selects RX1 yX1_reaches yX1_reaches, Cond.code yX1_reaches cX1_reaches 2 (some .boolean), Cond.methodLink RX5 150 yX0_drawsOf, Cond.instanceMethod yX0_drawsOf, Cond.selects RX0 yX0_drawsOf yX0_drawsOf, Cond.code yX0_drawsOf cX0_drawsOf 2 (some .int), Cond.methodLink RX5 153 yX0_drawsReaching, Cond.instanceMethod yX0_drawsReaching, Cond.selects RX0 yX0_drawsReaching yX0_drawsReaching, Cond.code yX0_drawsReaching cX0_drawsReaching 3 (some .int)]
def wsX5_draws_r5 : List Cond := [Cond.methodLink RX5 156 yX5_greatestCommonDivisor, Cond.static yX5_greatestCommonDivisor, Cond.code yX5_greatestCommonDivisor cX5_greatestCommonDivisor 4 (some .int), Cond.methodLink RX5 195 Lib.Math.min.name]
def wsX5_draws : List Cond := .code yX5_draws cX5_draws 7 (some .int) :: ((wsX5_draws_r1 ++ (wsX5_draws_r2 ++ (wsX5_draws_r3 ++ (wsX5_draws_r4 ++ wsX5_draws_r5)))) ++ wsX50 ++ wsX00 ++ wsX10 ++ wsX30)
def wsX5_most_r1 : List Cond := [Cond.fieldLink RX5 33 "SixNumbers" "box" "LSixNumbers$Box;", Cond.methodLink RX5 51 yX5_isOutside, Cond.static yX5_isOutside, Cond.initialized RX5, Cond.code yX5_isOutside cX5_isOutside 3 (some .boolean), Cond.methodLink RX5 147 yX0_countDraws, Cond.instanceMethod yX0_countDraws, Cond.selects RX0 yX0_countDraws yX0_countDraws, Cond.initialized RX0, Cond.code yX0_countDraws cX0_countDraws 3 none, Cond.fieldLink RX0 27 "SixNumbers$Box" "counted" "I", Cond.fieldLink RX0 24 "SixNumbers$Box" "totals" "[I", Cond.fieldLink RX0 21 "SixNumbers$Box" "tallies" "[[I", Cond.fieldLink RX0 15 "SixNumbers$Box" "size" "I", Cond.methodLink RX0 37 yJ6_bitCount_0f7a4, Cond.static yJ6_bitCount_0f7a4, Cond.initialized RJ6, Cond.code yJ6_bitCount_0f7a4 cJ6_bitCount_0f7a4 1 (some .int), Cond.constant RJ6 265 (1431655765), Cond.constant RJ6 266 (858993459), Cond.constant RJ6 267 (252645135), Cond.methodLink RX0 43 yX0_countDraw, Cond.instanceMethod yX0_countDraw, Cond.selects RX0 yX0_countDraw yX0_countDraw]
def wsX5_most_r2 : List Cond := [Cond.code yX0_countDraw cX0_countDraw 5 none, Cond.fieldLink RX0 30 "SixNumbers$Box" "trial" "LSixNumbers$Heap;", Cond.fieldLink RX0 9 "SixNumbers$Box" "cards" "[I", Cond.methodLink RX0 47 yX1_place, Cond.instanceMethod yX1_place, Cond.selects RX1 yX1_place yX1_place, Cond.initialized RX1, Cond.code yX1_place cX1_place 3 none, Cond.fieldLink RX1 9 "SixNumbers$Heap" "size" "I", Cond.fieldLink RX1 22 "SixNumbers$Heap" "items" "[I", Cond.methodLink RX1 42 Lib.Math.max.name, Cond.static Lib.Math.max.name, Cond.initialized "java/lang/Math", Cond.code Lib.Math.max.name Lib.Math.max.code 2 (some .int), Cond.fieldLink RX1 15 "SixNumbers$Heap" "changed" "I", Cond.methodLink RX0 53 yX1_shorten, Cond.instanceMethod yX1_shorten, Cond.selects RX1 yX1_shorten yX1_shorten, Cond.code yX1_shorten cX1_shorten 3 none, Cond.methodLink RX1 48 Lib.Math.min.name, Cond.static Lib.Math.min.name, Cond.code Lib.Math.min.name Lib.Math.min.code 2 (some .int), Cond.methodLink RX0 57 yX1_refresh, Cond.instanceMethod yX1_refresh]
def wsX5_most_r3 : List Cond := [Cond.selects RX1 yX1_refresh yX1_refresh, Cond.code yX1_refresh cX1_refresh 2 none, Cond.fieldLink RX1 36 "SixNumbers$Heap" "founds" "[I", Cond.methodLink RX1 51 yX1_forget, Cond.instanceMethod yX1_forget, Cond.selects RX1 yX1_forget yX1_forget, Cond.code yX1_forget cX1_forget 4 none, Cond.fieldLink RX1 33 "SixNumbers$Heap" "found" "[[I", Cond.fieldLink RX1 28 "SixNumbers$Heap" "counts" "[[J", Cond.fieldLink RX1 39 "SixNumbers$Heap" "holders" "[I", Cond.methodLink RX1 55 yX1_knows, Cond.instanceMethod yX1_knows, Cond.selects RX1 yX1_knows yX1_knows, Cond.code yX1_knows cX1_knows 2 (some .boolean), Cond.methodLink RX1 59 yX1_make, Cond.instanceMethod yX1_make, Cond.selects RX1 yX1_make yX1_make, Cond.code yX1_make cX1_make 4 none, Cond.methodLink RX1 62 yX1_add, Cond.instanceMethod yX1_add, Cond.selects RX1 yX1_add yX1_add, Cond.code yX1_add cX1_add 6 none, Cond.methodLink RX1 66 yX1_join, Cond.instanceMethod yX1_join]
def wsX5_most_r4 : List Cond := [Cond.selects RX1 yX1_join yX1_join, Cond.code yX1_join cX1_join 14 none, Cond.fieldLink RX1 18 "SixNumbers$Heap" "rules" "LSixNumbers$Rules;", Cond.methodLink RX1 78 Lib.Math.abs.name, Cond.static Lib.Math.abs.name, Cond.code Lib.Math.abs.name Lib.Math.abs.code 1 (some .int), Cond.methodLink RX1 70 yX3_allow, Cond.instanceMethod yX3_allow, Cond.selects RX3 yX3_allow yX3_allow, Cond.initialized RX3, Cond.code yX3_allow cX3_allow 2 (some .boolean), Cond.fieldLink RX3 9 "SixNumbers$Rules" "acts" "I", Cond.methodLink RX0 60 yX1_reaches, Cond.instanceMethod yX1_reaches, Cond.selects RX1 yX1_reaches yX1_reaches, Cond.code yX1_reaches cX1_reaches 2 (some .boolean), Cond.methodLink RX5 153 yX0_drawsReaching, Cond.instanceMethod yX0_drawsReaching, Cond.selects RX0 yX0_drawsReaching yX0_drawsReaching, Cond.code yX0_drawsReaching cX0_drawsReaching 3 (some .int)]
def wsX5_most : List Cond := .code yX5_most cX5_most 5 (some .int) :: ((wsX5_most_r1 ++ (wsX5_most_r2 ++ (wsX5_most_r3 ++ wsX5_most_r4))) ++ wsX50 ++ wsX00 ++ wsX10 ++ wsX30)
def wsX5_isInSpan : List Cond := .code yX5_isInSpan cX5_isInSpan 2 (some .boolean) :: ([])
def wsX5_spans_r1 : List Cond := [Cond.fieldLink RX5 25 "SixNumbers" "trial" "LSixNumbers$Heap;", Cond.methodLink RX5 204 yX5_isInSpan, Cond.static yX5_isInSpan, Cond.initialized RX5, Cond.code yX5_isInSpan cX5_isInSpan 2 (some .boolean), Cond.methodLink RX5 59 yX1_place, Cond.instanceMethod yX1_place, Cond.selects RX1 yX1_place yX1_place, Cond.initialized RX1, Cond.code yX1_place cX1_place 3 none, Cond.fieldLink RX1 9 "SixNumbers$Heap" "size" "I", Cond.fieldLink RX1 22 "SixNumbers$Heap" "items" "[I", Cond.methodLink RX1 42 Lib.Math.max.name, Cond.static Lib.Math.max.name, Cond.initialized "java/lang/Math", Cond.code Lib.Math.max.name Lib.Math.max.code 2 (some .int), Cond.fieldLink RX1 15 "SixNumbers$Heap" "changed" "I", Cond.methodLink RX5 67 yX1_shorten, Cond.instanceMethod yX1_shorten, Cond.selects RX1 yX1_shorten yX1_shorten, Cond.code yX1_shorten cX1_shorten 3 none, Cond.methodLink RX1 48 Lib.Math.min.name, Cond.static Lib.Math.min.name, Cond.code Lib.Math.min.name Lib.Math.min.code 2 (some .int)]
def wsX5_spans_r2 : List Cond := [Cond.methodLink RX5 96 yX1_refresh, Cond.instanceMethod yX1_refresh, Cond.selects RX1 yX1_refresh yX1_refresh, Cond.code yX1_refresh cX1_refresh 2 none, Cond.fieldLink RX1 36 "SixNumbers$Heap" "founds" "[I", Cond.methodLink RX1 51 yX1_forget, Cond.instanceMethod yX1_forget, Cond.selects RX1 yX1_forget yX1_forget, Cond.code yX1_forget cX1_forget 4 none, Cond.fieldLink RX1 33 "SixNumbers$Heap" "found" "[[I", Cond.fieldLink RX1 28 "SixNumbers$Heap" "counts" "[[J", Cond.fieldLink RX1 39 "SixNumbers$Heap" "holders" "[I", Cond.methodLink RX1 55 yX1_knows, Cond.instanceMethod yX1_knows, Cond.selects RX1 yX1_knows yX1_knows, Cond.code yX1_knows cX1_knows 2 (some .boolean), Cond.methodLink RX1 59 yX1_make, Cond.instanceMethod yX1_make, Cond.selects RX1 yX1_make yX1_make, Cond.code yX1_make cX1_make 4 none, Cond.methodLink RX1 62 yX1_add, Cond.instanceMethod yX1_add, Cond.selects RX1 yX1_add yX1_add, Cond.code yX1_add cX1_add 6 none]
def wsX5_spans_r3 : List Cond := [Cond.methodLink RX1 66 yX1_join, Cond.instanceMethod yX1_join, Cond.selects RX1 yX1_join yX1_join, Cond.code yX1_join cX1_join 14 none, Cond.fieldLink RX1 18 "SixNumbers$Heap" "rules" "LSixNumbers$Rules;", Cond.methodLink RX1 78 Lib.Math.abs.name, Cond.static Lib.Math.abs.name, Cond.code Lib.Math.abs.name Lib.Math.abs.code 1 (some .int), Cond.methodLink RX1 70 yX3_allow, Cond.instanceMethod yX3_allow, Cond.selects RX3 yX3_allow yX3_allow, Cond.initialized RX3, Cond.code yX3_allow cX3_allow 2 (some .boolean), Cond.fieldLink RX3 9 "SixNumbers$Rules" "acts" "I", Cond.methodLink RX5 117 yX1_leastNotReached, Cond.instanceMethod yX1_leastNotReached, Cond.selects RX1 yX1_leastNotReached yX1_leastNotReached, Cond.code yX1_leastNotReached cX1_leastNotReached 2 (some .int), Cond.methodLink RX1 86 yX1_reaches, Cond.instanceMethod yX1_reaches, Cond.selects RX1 yX1_reaches yX1_reaches, Cond.code yX1_reaches cX1_reaches 2 (some .boolean)]
def wsX5_spans : List Cond := .code yX5_spans cX5_spans 5 (some .boolean) :: ((wsX5_spans_r1 ++ (wsX5_spans_r2 ++ wsX5_spans_r3)) ++ wsX50 ++ wsX10 ++ wsX30)
def wsX5_firstSpan_r1 : List Cond := [Cond.methodLink RX5 127 yJ6_bitCount_0f7a4, Cond.static yJ6_bitCount_0f7a4, Cond.initialized RJ6, Cond.code yJ6_bitCount_0f7a4 cJ6_bitCount_0f7a4 1 (some .int), Cond.constant RJ6 265 (1431655765), Cond.constant RJ6 266 (858993459), Cond.constant RJ6 267 (252645135), Cond.methodLink RX5 200 yX5_spans, Cond.instanceMethod yX5_spans, Cond.selects RX5 yX5_spans yX5_spans, Cond.initialized RX5, Cond.code yX5_spans cX5_spans 5 (some .boolean), Cond.fieldLink RX5 25 "SixNumbers" "trial" "LSixNumbers$Heap;", Cond.methodLink RX5 204 yX5_isInSpan, Cond.static yX5_isInSpan, Cond.code yX5_isInSpan cX5_isInSpan 2 (some .boolean), Cond.methodLink RX5 59 yX1_place, Cond.instanceMethod yX1_place, Cond.selects RX1 yX1_place yX1_place, Cond.initialized RX1, Cond.code yX1_place cX1_place 3 none, Cond.fieldLink RX1 9 "SixNumbers$Heap" "size" "I", Cond.fieldLink RX1 22 "SixNumbers$Heap" "items" "[I", Cond.methodLink RX1 42 Lib.Math.max.name]
def wsX5_firstSpan_r2 : List Cond := [Cond.static Lib.Math.max.name, Cond.initialized "java/lang/Math", Cond.code Lib.Math.max.name Lib.Math.max.code 2 (some .int), Cond.fieldLink RX1 15 "SixNumbers$Heap" "changed" "I", Cond.methodLink RX5 67 yX1_shorten, Cond.instanceMethod yX1_shorten, Cond.selects RX1 yX1_shorten yX1_shorten, Cond.code yX1_shorten cX1_shorten 3 none, Cond.methodLink RX1 48 Lib.Math.min.name, Cond.static Lib.Math.min.name, Cond.code Lib.Math.min.name Lib.Math.min.code 2 (some .int), Cond.methodLink RX5 96 yX1_refresh, Cond.instanceMethod yX1_refresh, Cond.selects RX1 yX1_refresh yX1_refresh, Cond.code yX1_refresh cX1_refresh 2 none, Cond.fieldLink RX1 36 "SixNumbers$Heap" "founds" "[I", Cond.methodLink RX1 51 yX1_forget, Cond.instanceMethod yX1_forget, Cond.selects RX1 yX1_forget yX1_forget, Cond.code yX1_forget cX1_forget 4 none, Cond.fieldLink RX1 33 "SixNumbers$Heap" "found" "[[I", Cond.fieldLink RX1 28 "SixNumbers$Heap" "counts" "[[J", Cond.fieldLink RX1 39 "SixNumbers$Heap" "holders" "[I", Cond.methodLink RX1 55 yX1_knows]
def wsX5_firstSpan_r3 : List Cond := [Cond.instanceMethod yX1_knows, Cond.selects RX1 yX1_knows yX1_knows, Cond.code yX1_knows cX1_knows 2 (some .boolean), Cond.methodLink RX1 59 yX1_make, Cond.instanceMethod yX1_make, Cond.selects RX1 yX1_make yX1_make, Cond.code yX1_make cX1_make 4 none, Cond.methodLink RX1 62 yX1_add, Cond.instanceMethod yX1_add, Cond.selects RX1 yX1_add yX1_add, Cond.code yX1_add cX1_add 6 none, Cond.methodLink RX1 66 yX1_join, Cond.instanceMethod yX1_join, Cond.selects RX1 yX1_join yX1_join, Cond.code yX1_join cX1_join 14 none, Cond.fieldLink RX1 18 "SixNumbers$Heap" "rules" "LSixNumbers$Rules;", Cond.methodLink RX1 78 Lib.Math.abs.name, Cond.static Lib.Math.abs.name, Cond.code Lib.Math.abs.name Lib.Math.abs.code 1 (some .int), Cond.methodLink RX1 70 yX3_allow, Cond.instanceMethod yX3_allow, Cond.selects RX3 yX3_allow yX3_allow, Cond.initialized RX3, Cond.code yX3_allow cX3_allow 2 (some .boolean)]
def wsX5_firstSpan_r4 : List Cond := [Cond.fieldLink RX3 9 "SixNumbers$Rules" "acts" "I", Cond.methodLink RX5 117 yX1_leastNotReached, Cond.instanceMethod yX1_leastNotReached, Cond.selects RX1 yX1_leastNotReached yX1_leastNotReached, Cond.code yX1_leastNotReached cX1_leastNotReached 2 (some .int), Cond.methodLink RX1 86 yX1_reaches, Cond.instanceMethod yX1_reaches, Cond.selects RX1 yX1_reaches yX1_reaches, Cond.code yX1_reaches cX1_reaches 2 (some .boolean)]
def wsX5_firstSpan : List Cond := .code yX5_firstSpan cX5_firstSpan 4 (some .int) :: ((wsX5_firstSpan_r1 ++ (wsX5_firstSpan_r2 ++ (wsX5_firstSpan_r3 ++ wsX5_firstSpan_r4))) ++ wsX50 ++ wsX10 ++ wsX30)
def wsX5_spanNumber : List Cond := .code yX5_spanNumber cX5_spanNumber 4 (some .int) :: ([.methodLink RX5 204 yX5_isInSpan, .static yX5_isInSpan, .initialized RX5, .code yX5_isInSpan cX5_isInSpan 2 (some .boolean)])
def wsX5_span_r1 : List Cond := [Cond.methodLink RX5 51 yX5_isOutside, Cond.static yX5_isOutside, Cond.initialized RX5, Cond.code yX5_isOutside cX5_isOutside 3 (some .boolean), Cond.methodLink RX5 159 yX5_firstSpan, Cond.instanceMethod yX5_firstSpan, Cond.selects RX5 yX5_firstSpan yX5_firstSpan, Cond.code yX5_firstSpan cX5_firstSpan 4 (some .int), Cond.methodLink RX5 127 yJ6_bitCount_0f7a4, Cond.static yJ6_bitCount_0f7a4, Cond.initialized RJ6, Cond.code yJ6_bitCount_0f7a4 cJ6_bitCount_0f7a4 1 (some .int), Cond.constant RJ6 265 (1431655765), Cond.constant RJ6 266 (858993459), Cond.constant RJ6 267 (252645135), Cond.methodLink RX5 200 yX5_spans, Cond.instanceMethod yX5_spans, Cond.selects RX5 yX5_spans yX5_spans, Cond.code yX5_spans cX5_spans 5 (some .boolean), Cond.fieldLink RX5 25 "SixNumbers" "trial" "LSixNumbers$Heap;", Cond.methodLink RX5 204 yX5_isInSpan, Cond.static yX5_isInSpan, Cond.code yX5_isInSpan cX5_isInSpan 2 (some .boolean), Cond.methodLink RX5 59 yX1_place]
def wsX5_span_r2 : List Cond := [Cond.instanceMethod yX1_place, Cond.selects RX1 yX1_place yX1_place, Cond.initialized RX1, Cond.code yX1_place cX1_place 3 none, Cond.fieldLink RX1 9 "SixNumbers$Heap" "size" "I", Cond.fieldLink RX1 22 "SixNumbers$Heap" "items" "[I", Cond.methodLink RX1 42 Lib.Math.max.name, Cond.static Lib.Math.max.name, Cond.initialized "java/lang/Math", Cond.code Lib.Math.max.name Lib.Math.max.code 2 (some .int), Cond.fieldLink RX1 15 "SixNumbers$Heap" "changed" "I", Cond.methodLink RX5 67 yX1_shorten, Cond.instanceMethod yX1_shorten, Cond.selects RX1 yX1_shorten yX1_shorten, Cond.code yX1_shorten cX1_shorten 3 none, Cond.methodLink RX1 48 Lib.Math.min.name, Cond.static Lib.Math.min.name, Cond.code Lib.Math.min.name Lib.Math.min.code 2 (some .int), Cond.methodLink RX5 96 yX1_refresh, Cond.instanceMethod yX1_refresh, Cond.selects RX1 yX1_refresh yX1_refresh, Cond.code yX1_refresh cX1_refresh 2 none, Cond.fieldLink RX1 36 "SixNumbers$Heap" "founds" "[I", Cond.methodLink RX1 51 yX1_forget]
def wsX5_span_r3 : List Cond := [Cond.instanceMethod yX1_forget, Cond.selects RX1 yX1_forget yX1_forget, Cond.code yX1_forget cX1_forget 4 none, Cond.fieldLink RX1 33 "SixNumbers$Heap" "found" "[[I", Cond.fieldLink RX1 28 "SixNumbers$Heap" "counts" "[[J", Cond.fieldLink RX1 39 "SixNumbers$Heap" "holders" "[I", Cond.methodLink RX1 55 yX1_knows, Cond.instanceMethod yX1_knows, Cond.selects RX1 yX1_knows yX1_knows, Cond.code yX1_knows cX1_knows 2 (some .boolean), Cond.methodLink RX1 59 yX1_make, Cond.instanceMethod yX1_make, Cond.selects RX1 yX1_make yX1_make, Cond.code yX1_make cX1_make 4 none, Cond.methodLink RX1 62 yX1_add, Cond.instanceMethod yX1_add, Cond.selects RX1 yX1_add yX1_add, Cond.code yX1_add cX1_add 6 none, Cond.methodLink RX1 66 yX1_join, Cond.instanceMethod yX1_join, Cond.selects RX1 yX1_join yX1_join, Cond.code yX1_join cX1_join 14 none, Cond.fieldLink RX1 18 "SixNumbers$Heap" "rules" "LSixNumbers$Rules;", Cond.methodLink RX1 78 Lib.Math.abs.name]
def wsX5_span_r4 : List Cond := [Cond.static Lib.Math.abs.name, Cond.code Lib.Math.abs.name Lib.Math.abs.code 1 (some .int), Cond.methodLink RX1 70 yX3_allow, Cond.instanceMethod yX3_allow, Cond.selects RX3 yX3_allow yX3_allow, Cond.initialized RX3, Cond.code yX3_allow cX3_allow 2 (some .boolean), Cond.fieldLink RX3 9 "SixNumbers$Rules" "acts" "I", Cond.methodLink RX5 117 yX1_leastNotReached, Cond.instanceMethod yX1_leastNotReached, Cond.selects RX1 yX1_leastNotReached yX1_leastNotReached, Cond.code yX1_leastNotReached cX1_leastNotReached 2 (some .int), Cond.methodLink RX1 86 yX1_reaches, Cond.instanceMethod yX1_reaches, Cond.selects RX1 yX1_reaches yX1_reaches, Cond.code yX1_reaches cX1_reaches 2 (some .boolean), Cond.methodLink RX5 162 yX5_spanNumber, Cond.static yX5_spanNumber, Cond.code yX5_spanNumber cX5_spanNumber 4 (some .int)]
def wsX5_span : List Cond := .code yX5_span cX5_span 4 (some .int) :: ((wsX5_span_r1 ++ (wsX5_span_r2 ++ (wsX5_span_r3 ++ wsX5_span_r4))) ++ wsX50 ++ wsX10 ++ wsX30)
def wsX5_signs_r1 : List Cond := [Cond.fieldLink RX5 47 "SixNumbers" "chain" "LSixNumbers$Signs;", Cond.methodLink RX5 51 yX5_isOutside, Cond.static yX5_isOutside, Cond.initialized RX5, Cond.code yX5_isOutside cX5_isOutside 3 (some .boolean), Cond.methodLink RX5 165 yX4_stepsBetween, Cond.instanceMethod yX4_stepsBetween, Cond.selects RX4 yX4_stepsBetween yX4_stepsBetween, Cond.initialized RX4, Cond.code yX4_stepsBetween cX4_stepsBetween 3 (some .int), Cond.fieldLink RX4 22 "SixNumbers$Signs" "from" "I", Cond.fieldLink RX4 9 "SixNumbers$Signs" "steps" "[I", Cond.methodLink RX4 29 yX4_walkFrom, Cond.instanceMethod yX4_walkFrom, Cond.selects RX4 yX4_walkFrom yX4_walkFrom, Cond.code yX4_walkFrom cX4_walkFrom 5 none, Cond.fieldLink RX4 18 "SixNumbers$Signs" "waiting" "I", Cond.fieldLink RX4 15 "SixNumbers$Signs" "queue" "[I", Cond.methodLink RX4 33 yX4_arrive, Cond.instanceMethod yX4_arrive, Cond.selects RX4 yX4_arrive yX4_arrive, Cond.code yX4_arrive cX4_arrive 3 none, Cond.methodLink RX4 37 yX4_signed, Cond.static yX4_signed]
def wsX5_signs_r2 : List Cond := [Cond.code yX4_signed cX4_signed 2 (some .int), Cond.methodLink RX4 41 yX4_rootOf, Cond.static yX4_rootOf, Cond.code yX4_rootOf cX4_rootOf 3 (some .int), Cond.methodLink RX4 45 yX4_productTo, Cond.static yX4_productTo, Cond.code yX4_productTo cX4_productTo 3 (some .int)]
def wsX5_signs : List Cond := .code yX5_signs cX5_signs 3 (some .int) :: ((wsX5_signs_r1 ++ wsX5_signs_r2) ++ wsX50 ++ wsX40)
def wsX6_init : List Cond := .code yX6_init cX6_init 1 none :: ([.methodLink RX6 1 objectInit, .instanceMethod objectInit, .code objectInit ⟨#[0xb1]⟩ 1 none, .arrayClass .int, .fieldLink RX6 7 "SixNumbersModel" "numbers" "[I", .fieldLink RX6 13 "SixNumbersModel" "acts" "I", .fieldLink RX6 17 "SixNumbersModel" "most" "I", .fieldLink RX6 20 "SixNumbersModel" "box" "[I", .fieldLink RX6 23 "SixNumbersModel" "out" "[I", .fieldLink RX6 26 "SixNumbersModel" "work" "[I", .constant RX6 29 (192064), .arrayClass .long, .fieldLink RX6 30 "SixNumbersModel" "ways" "[J", .fieldLink RX6 34 "SixNumbersModel" "lefts" "[I", .fieldLink RX6 37 "SixNumbersModel" "rights" "[I", .fieldLink RX6 40 "SixNumbersModel" "todoSet" "[I", .fieldLink RX6 43 "SixNumbersModel" "todoValue" "[I", .fieldLink RX6 46 "SixNumbersModel" "counts" "[I", .fieldLink RX6 49 "SixNumbersModel" "far" "[I", .fieldLink RX6 52 "SixNumbersModel" "line" "[I"] ++ wsX60)
def wsX6_in : List Cond := .code yX6_in cX6_in 6 (some .boolean) :: ([])
def wsX6_bits : List Cond := .code yX6_bits cX6_bits 3 (some .int) :: ([])
def wsX6_item : List Cond := .code yX6_item cX6_item 2 (some .int) :: ([.constantLong RX6 55 (100), .fieldLink RX6 61 "SixNumbersModel" "items" "I", .fieldLink RX6 7 "SixNumbersModel" "numbers" "[I", .fieldLink RX6 64 "SixNumbersModel" "isHeap" "Z", .methodLink RX6 57 yX6_in, .static yX6_in, .initialized RX6, .code yX6_in cX6_in 6 (some .boolean)] ++ wsX60)
def wsX6_set : List Cond := .code yX6_set cX6_set 4 (some .int) :: ([.fieldLink RX6 61 "SixNumbersModel" "items" "I", .constantLong RX6 55 (100), .fieldLink RX6 7 "SixNumbersModel" "numbers" "[I", .fieldLink RX6 64 "SixNumbersModel" "isHeap" "Z", .methodLink RX6 57 yX6_in, .static yX6_in, .initialized RX6, .code yX6_in cX6_in 6 (some .boolean)] ++ wsX60)
def wsX6_cut : List Cond := .code yX6_cut cX6_cut 3 (some .int) :: ([.fieldLink RX6 61 "SixNumbersModel" "items" "I", .fieldLink RX6 64 "SixNumbersModel" "isHeap" "Z", .methodLink RX6 57 yX6_in, .static yX6_in, .initialized RX6, .code yX6_in cX6_in 6 (some .boolean)] ++ wsX60)
def wsX6_rule : List Cond := .code yX6_rule cX6_rule 4 (some .int) :: ([.constantLong RX6 68 (15), .constantLong RX6 70 (3000), .fieldLink RX6 13 "SixNumbersModel" "acts" "I", .fieldLink RX6 17 "SixNumbersModel" "most" "I", .fieldLink RX6 64 "SixNumbersModel" "isHeap" "Z", .methodLink RX6 57 yX6_in, .static yX6_in, .initialized RX6, .code yX6_in cX6_in 6 (some .boolean)] ++ wsX60)
def wsX6_told : List Cond := .code yX6_told cX6_told 2 (some .int) :: ([.constantLong RX6 72 (10), .constantLong RX6 68 (15), .fieldLink RX6 61 "SixNumbersModel" "items" "I", .fieldLink RX6 7 "SixNumbersModel" "numbers" "[I", .constantLong RX6 74 (20), .constantLong RX6 76 (29), .fieldLink RX6 78 "SixNumbersModel" "cards" "I", .fieldLink RX6 20 "SixNumbersModel" "box" "[I", .fieldLink RX6 13 "SixNumbersModel" "acts" "I", .fieldLink RX6 17 "SixNumbersModel" "most" "I", .fieldLink RX6 81 "SixNumbersModel" "outSize" "I", .methodLink RX6 57 yX6_in, .static yX6_in, .initialized RX6, .code yX6_in cX6_in 6 (some .boolean)] ++ wsX60)
def wsX6_may : List Cond := .code yX6_may cX6_may 2 (some .boolean) :: ([.fieldLink RX6 13 "SixNumbersModel" "acts" "I"] ++ wsX60)
def wsX6_listOf : List Cond := .code yX6_listOf cX6_listOf 5 (some .int) :: ([.fieldLink RX6 30 "SixNumbersModel" "ways" "[J"] ++ wsX60)
def wsX6_add : List Cond := .code yX6_add cX6_add 6 none :: ([.fieldLink RX6 17 "SixNumbersModel" "most" "I", .fieldLink RX6 30 "SixNumbersModel" "ways" "[J"] ++ wsX60)
def wsX6_join : List Cond := .code yX6_join cX6_join 13 none :: ([.fieldLink RX6 34 "SixNumbersModel" "lefts" "[I", .fieldLink RX6 37 "SixNumbersModel" "rights" "[I", .fieldLink RX6 30 "SixNumbersModel" "ways" "[J", .methodLink RX6 84 yX6_listOf, .instanceMethod yX6_listOf, .selects RX6 yX6_listOf yX6_listOf, .initialized RX6, .code yX6_listOf cX6_listOf 5 (some .int), .methodLink RX6 88 yX6_may, .instanceMethod yX6_may, .selects RX6 yX6_may yX6_may, .code yX6_may cX6_may 2 (some .boolean), .fieldLink RX6 13 "SixNumbersModel" "acts" "I", .methodLink RX6 92 yX6_add, .instanceMethod yX6_add, .selects RX6 yX6_add yX6_add, .code yX6_add cX6_add 6 none, .fieldLink RX6 17 "SixNumbersModel" "most" "I"] ++ wsX60)
def wsX6_fill_r1 : List Cond := [Cond.fieldLink RX6 96 "SixNumbersModel" "works" "I", Cond.fieldLink RX6 30 "SixNumbersModel" "ways" "[J", Cond.fieldLink RX6 26 "SixNumbersModel" "work" "[I", Cond.fieldLink RX6 64 "SixNumbersModel" "isHeap" "Z", Cond.methodLink RX6 99 yX6_bits, Cond.static yX6_bits, Cond.initialized RX6, Cond.code yX6_bits cX6_bits 3 (some .int), Cond.methodLink RX6 103 yX6_join, Cond.instanceMethod yX6_join, Cond.selects RX6 yX6_join yX6_join, Cond.code yX6_join cX6_join 13 none, Cond.fieldLink RX6 34 "SixNumbersModel" "lefts" "[I", Cond.fieldLink RX6 37 "SixNumbersModel" "rights" "[I", Cond.methodLink RX6 84 yX6_listOf, Cond.instanceMethod yX6_listOf, Cond.selects RX6 yX6_listOf yX6_listOf, Cond.code yX6_listOf cX6_listOf 5 (some .int), Cond.methodLink RX6 88 yX6_may, Cond.instanceMethod yX6_may, Cond.selects RX6 yX6_may yX6_may, Cond.code yX6_may cX6_may 2 (some .boolean), Cond.fieldLink RX6 13 "SixNumbersModel" "acts" "I", Cond.methodLink RX6 92 yX6_add]
def wsX6_fill_r2 : List Cond := [Cond.instanceMethod yX6_add, Cond.selects RX6 yX6_add yX6_add, Cond.code yX6_add cX6_add 6 none, Cond.fieldLink RX6 17 "SixNumbersModel" "most" "I"]
def wsX6_fill : List Cond := .code yX6_fill cX6_fill 3 none :: ((wsX6_fill_r1 ++ wsX6_fill_r2) ++ wsX60)
def wsX6_heap_r1 : List Cond := [Cond.fieldLink RX6 64 "SixNumbersModel" "isHeap" "Z", Cond.fieldLink RX6 61 "SixNumbersModel" "items" "I", Cond.fieldLink RX6 96 "SixNumbersModel" "works" "I", Cond.fieldLink RX6 26 "SixNumbersModel" "work" "[I", Cond.fieldLink RX6 7 "SixNumbersModel" "numbers" "[I", Cond.methodLink RX6 107 yX6_fill, Cond.instanceMethod yX6_fill, Cond.selects RX6 yX6_fill yX6_fill, Cond.initialized RX6, Cond.code yX6_fill cX6_fill 3 none, Cond.fieldLink RX6 30 "SixNumbersModel" "ways" "[J", Cond.methodLink RX6 99 yX6_bits, Cond.static yX6_bits, Cond.code yX6_bits cX6_bits 3 (some .int), Cond.methodLink RX6 103 yX6_join, Cond.instanceMethod yX6_join, Cond.selects RX6 yX6_join yX6_join, Cond.code yX6_join cX6_join 13 none, Cond.fieldLink RX6 34 "SixNumbersModel" "lefts" "[I", Cond.fieldLink RX6 37 "SixNumbersModel" "rights" "[I", Cond.methodLink RX6 84 yX6_listOf, Cond.instanceMethod yX6_listOf, Cond.selects RX6 yX6_listOf yX6_listOf, Cond.code yX6_listOf cX6_listOf 5 (some .int)]
def wsX6_heap_r2 : List Cond := [Cond.methodLink RX6 88 yX6_may, Cond.instanceMethod yX6_may, Cond.selects RX6 yX6_may yX6_may, Cond.code yX6_may cX6_may 2 (some .boolean), Cond.fieldLink RX6 13 "SixNumbersModel" "acts" "I", Cond.methodLink RX6 92 yX6_add, Cond.instanceMethod yX6_add, Cond.selects RX6 yX6_add yX6_add, Cond.code yX6_add cX6_add 6 none, Cond.fieldLink RX6 17 "SixNumbersModel" "most" "I"]
def wsX6_heap : List Cond := .code yX6_heap cX6_heap 2 none :: ((wsX6_heap_r1 ++ wsX6_heap_r2) ++ wsX60)
def wsX6_isSet : List Cond := .code yX6_isSet cX6_isSet 2 (some .boolean) :: ([.fieldLink RX6 61 "SixNumbersModel" "items" "I", .methodLink RX6 57 yX6_in, .static yX6_in, .initialized RX6, .code yX6_in cX6_in 6 (some .boolean)] ++ wsX60)
def wsX6_allOf : List Cond := .code yX6_allOf cX6_allOf 5 (some .long) :: ([.fieldLink RX6 96 "SixNumbersModel" "works" "I", .fieldLink RX6 30 "SixNumbersModel" "ways" "[J"] ++ wsX60)
def wsX6_isReached : List Cond := .code yX6_isReached cX6_isReached 2 (some .boolean) :: ([.methodLink RX6 110 yX6_allOf, .instanceMethod yX6_allOf, .selects RX6 yX6_allOf yX6_allOf, .initialized RX6, .code yX6_allOf cX6_allOf 5 (some .long), .fieldLink RX6 96 "SixNumbersModel" "works" "I", .fieldLink RX6 30 "SixNumbersModel" "ways" "[J"] ++ wsX60)
def wsX6_ways_r1 : List Cond := [Cond.constantLong RX6 70 (3000), Cond.constantLong RX6 117 (-1002), Cond.fieldLink RX6 30 "SixNumbersModel" "ways" "[J", Cond.methodLink RX6 114 yX6_isSet, Cond.instanceMethod yX6_isSet, Cond.selects RX6 yX6_isSet yX6_isSet, Cond.initialized RX6, Cond.code yX6_isSet cX6_isSet 2 (some .boolean), Cond.fieldLink RX6 61 "SixNumbersModel" "items" "I", Cond.methodLink RX6 57 yX6_in, Cond.static yX6_in, Cond.code yX6_in cX6_in 6 (some .boolean), Cond.methodLink RX6 119 yX6_heap, Cond.instanceMethod yX6_heap, Cond.selects RX6 yX6_heap yX6_heap, Cond.code yX6_heap cX6_heap 2 none, Cond.fieldLink RX6 64 "SixNumbersModel" "isHeap" "Z", Cond.fieldLink RX6 96 "SixNumbersModel" "works" "I", Cond.fieldLink RX6 26 "SixNumbersModel" "work" "[I", Cond.fieldLink RX6 7 "SixNumbersModel" "numbers" "[I", Cond.methodLink RX6 107 yX6_fill, Cond.instanceMethod yX6_fill, Cond.selects RX6 yX6_fill yX6_fill, Cond.code yX6_fill cX6_fill 3 none]
def wsX6_ways_r2 : List Cond := [Cond.methodLink RX6 99 yX6_bits, Cond.static yX6_bits, Cond.code yX6_bits cX6_bits 3 (some .int), Cond.methodLink RX6 103 yX6_join, Cond.instanceMethod yX6_join, Cond.selects RX6 yX6_join yX6_join, Cond.code yX6_join cX6_join 13 none, Cond.fieldLink RX6 34 "SixNumbersModel" "lefts" "[I", Cond.fieldLink RX6 37 "SixNumbersModel" "rights" "[I", Cond.methodLink RX6 84 yX6_listOf, Cond.instanceMethod yX6_listOf, Cond.selects RX6 yX6_listOf yX6_listOf, Cond.code yX6_listOf cX6_listOf 5 (some .int), Cond.methodLink RX6 88 yX6_may, Cond.instanceMethod yX6_may, Cond.selects RX6 yX6_may yX6_may, Cond.code yX6_may cX6_may 2 (some .boolean), Cond.fieldLink RX6 13 "SixNumbersModel" "acts" "I", Cond.methodLink RX6 92 yX6_add, Cond.instanceMethod yX6_add, Cond.selects RX6 yX6_add yX6_add, Cond.code yX6_add cX6_add 6 none, Cond.fieldLink RX6 17 "SixNumbersModel" "most" "I"]
def wsX6_ways : List Cond := .code yX6_ways cX6_ways 3 (some .long) :: ((wsX6_ways_r1 ++ wsX6_ways_r2) ++ wsX60)
def wsX6_all_r1 : List Cond := [Cond.constantLong RX6 70 (3000), Cond.constantLong RX6 117 (-1002), Cond.methodLink RX6 57 yX6_in, Cond.static yX6_in, Cond.initialized RX6, Cond.code yX6_in cX6_in 6 (some .boolean), Cond.methodLink RX6 119 yX6_heap, Cond.instanceMethod yX6_heap, Cond.selects RX6 yX6_heap yX6_heap, Cond.code yX6_heap cX6_heap 2 none, Cond.fieldLink RX6 64 "SixNumbersModel" "isHeap" "Z", Cond.fieldLink RX6 61 "SixNumbersModel" "items" "I", Cond.fieldLink RX6 96 "SixNumbersModel" "works" "I", Cond.fieldLink RX6 26 "SixNumbersModel" "work" "[I", Cond.fieldLink RX6 7 "SixNumbersModel" "numbers" "[I", Cond.methodLink RX6 107 yX6_fill, Cond.instanceMethod yX6_fill, Cond.selects RX6 yX6_fill yX6_fill, Cond.code yX6_fill cX6_fill 3 none, Cond.fieldLink RX6 30 "SixNumbersModel" "ways" "[J", Cond.methodLink RX6 99 yX6_bits, Cond.static yX6_bits, Cond.code yX6_bits cX6_bits 3 (some .int), Cond.methodLink RX6 103 yX6_join]
def wsX6_all_r2 : List Cond := [Cond.instanceMethod yX6_join, Cond.selects RX6 yX6_join yX6_join, Cond.code yX6_join cX6_join 13 none, Cond.fieldLink RX6 34 "SixNumbersModel" "lefts" "[I", Cond.fieldLink RX6 37 "SixNumbersModel" "rights" "[I", Cond.methodLink RX6 84 yX6_listOf, Cond.instanceMethod yX6_listOf, Cond.selects RX6 yX6_listOf yX6_listOf, Cond.code yX6_listOf cX6_listOf 5 (some .int), Cond.methodLink RX6 88 yX6_may, Cond.instanceMethod yX6_may, Cond.selects RX6 yX6_may yX6_may, Cond.code yX6_may cX6_may 2 (some .boolean), Cond.fieldLink RX6 13 "SixNumbersModel" "acts" "I", Cond.methodLink RX6 92 yX6_add, Cond.instanceMethod yX6_add, Cond.selects RX6 yX6_add yX6_add, Cond.code yX6_add cX6_add 6 none, Cond.fieldLink RX6 17 "SixNumbersModel" "most" "I", Cond.methodLink RX6 110 yX6_allOf, Cond.instanceMethod yX6_allOf, Cond.selects RX6 yX6_allOf yX6_allOf, Cond.code yX6_allOf cX6_allOf 5 (some .long)]
def wsX6_all : List Cond := .code yX6_all cX6_all 2 (some .long) :: ((wsX6_all_r1 ++ wsX6_all_r2) ++ wsX60)
def wsX6_has : List Cond := .code yX6_has cX6_has 3 (some .boolean) :: ([.fieldLink RX6 30 "SixNumbersModel" "ways" "[J", .methodLink RX6 122 yX6_isReached, .instanceMethod yX6_isReached, .selects RX6 yX6_isReached yX6_isReached, .initialized RX6, .code yX6_isReached cX6_isReached 2 (some .boolean), .methodLink RX6 110 yX6_allOf, .instanceMethod yX6_allOf, .selects RX6 yX6_allOf yX6_allOf, .code yX6_allOf cX6_allOf 5 (some .long), .fieldLink RX6 96 "SixNumbersModel" "works" "I"] ++ wsX60)
def wsX6_reached_r1 : List Cond := [Cond.methodLink RX6 114 yX6_isSet, Cond.instanceMethod yX6_isSet, Cond.selects RX6 yX6_isSet yX6_isSet, Cond.initialized RX6, Cond.code yX6_isSet cX6_isSet 2 (some .boolean), Cond.fieldLink RX6 61 "SixNumbersModel" "items" "I", Cond.methodLink RX6 57 yX6_in, Cond.static yX6_in, Cond.code yX6_in cX6_in 6 (some .boolean), Cond.methodLink RX6 119 yX6_heap, Cond.instanceMethod yX6_heap, Cond.selects RX6 yX6_heap yX6_heap, Cond.code yX6_heap cX6_heap 2 none, Cond.fieldLink RX6 64 "SixNumbersModel" "isHeap" "Z", Cond.fieldLink RX6 96 "SixNumbersModel" "works" "I", Cond.fieldLink RX6 26 "SixNumbersModel" "work" "[I", Cond.fieldLink RX6 7 "SixNumbersModel" "numbers" "[I", Cond.methodLink RX6 107 yX6_fill, Cond.instanceMethod yX6_fill, Cond.selects RX6 yX6_fill yX6_fill, Cond.code yX6_fill cX6_fill 3 none, Cond.fieldLink RX6 30 "SixNumbersModel" "ways" "[J", Cond.methodLink RX6 99 yX6_bits, Cond.static yX6_bits]
def wsX6_reached_r2 : List Cond := [Cond.code yX6_bits cX6_bits 3 (some .int), Cond.methodLink RX6 103 yX6_join, Cond.instanceMethod yX6_join, Cond.selects RX6 yX6_join yX6_join, Cond.code yX6_join cX6_join 13 none, Cond.fieldLink RX6 34 "SixNumbersModel" "lefts" "[I", Cond.fieldLink RX6 37 "SixNumbersModel" "rights" "[I", Cond.methodLink RX6 84 yX6_listOf, Cond.instanceMethod yX6_listOf, Cond.selects RX6 yX6_listOf yX6_listOf, Cond.code yX6_listOf cX6_listOf 5 (some .int), Cond.methodLink RX6 88 yX6_may, Cond.instanceMethod yX6_may, Cond.selects RX6 yX6_may yX6_may, Cond.code yX6_may cX6_may 2 (some .boolean), Cond.fieldLink RX6 13 "SixNumbersModel" "acts" "I", Cond.methodLink RX6 92 yX6_add, Cond.instanceMethod yX6_add, Cond.selects RX6 yX6_add yX6_add, Cond.code yX6_add cX6_add 6 none, Cond.fieldLink RX6 17 "SixNumbersModel" "most" "I", Cond.methodLink RX6 125 yX6_has, Cond.instanceMethod yX6_has, Cond.selects RX6 yX6_has yX6_has]
def wsX6_reached_r3 : List Cond := [Cond.code yX6_has cX6_has 3 (some .boolean), Cond.methodLink RX6 122 yX6_isReached, Cond.instanceMethod yX6_isReached, Cond.selects RX6 yX6_isReached yX6_isReached, Cond.code yX6_isReached cX6_isReached 2 (some .boolean), Cond.methodLink RX6 110 yX6_allOf, Cond.instanceMethod yX6_allOf, Cond.selects RX6 yX6_allOf yX6_allOf, Cond.code yX6_allOf cX6_allOf 5 (some .long)]
def wsX6_reached : List Cond := .code yX6_reached cX6_reached 4 (some .int) :: ((wsX6_reached_r1 ++ (wsX6_reached_r2 ++ wsX6_reached_r3)) ++ wsX60)
def wsX6_value_r1 : List Cond := [Cond.methodLink RX6 114 yX6_isSet, Cond.instanceMethod yX6_isSet, Cond.selects RX6 yX6_isSet yX6_isSet, Cond.initialized RX6, Cond.code yX6_isSet cX6_isSet 2 (some .boolean), Cond.fieldLink RX6 61 "SixNumbersModel" "items" "I", Cond.methodLink RX6 57 yX6_in, Cond.static yX6_in, Cond.code yX6_in cX6_in 6 (some .boolean), Cond.methodLink RX6 119 yX6_heap, Cond.instanceMethod yX6_heap, Cond.selects RX6 yX6_heap yX6_heap, Cond.code yX6_heap cX6_heap 2 none, Cond.fieldLink RX6 64 "SixNumbersModel" "isHeap" "Z", Cond.fieldLink RX6 96 "SixNumbersModel" "works" "I", Cond.fieldLink RX6 26 "SixNumbersModel" "work" "[I", Cond.fieldLink RX6 7 "SixNumbersModel" "numbers" "[I", Cond.methodLink RX6 107 yX6_fill, Cond.instanceMethod yX6_fill, Cond.selects RX6 yX6_fill yX6_fill, Cond.code yX6_fill cX6_fill 3 none, Cond.fieldLink RX6 30 "SixNumbersModel" "ways" "[J", Cond.methodLink RX6 99 yX6_bits, Cond.static yX6_bits]
def wsX6_value_r2 : List Cond := [Cond.code yX6_bits cX6_bits 3 (some .int), Cond.methodLink RX6 103 yX6_join, Cond.instanceMethod yX6_join, Cond.selects RX6 yX6_join yX6_join, Cond.code yX6_join cX6_join 13 none, Cond.fieldLink RX6 34 "SixNumbersModel" "lefts" "[I", Cond.fieldLink RX6 37 "SixNumbersModel" "rights" "[I", Cond.methodLink RX6 84 yX6_listOf, Cond.instanceMethod yX6_listOf, Cond.selects RX6 yX6_listOf yX6_listOf, Cond.code yX6_listOf cX6_listOf 5 (some .int), Cond.methodLink RX6 88 yX6_may, Cond.instanceMethod yX6_may, Cond.selects RX6 yX6_may yX6_may, Cond.code yX6_may cX6_may 2 (some .boolean), Cond.fieldLink RX6 13 "SixNumbersModel" "acts" "I", Cond.methodLink RX6 92 yX6_add, Cond.instanceMethod yX6_add, Cond.selects RX6 yX6_add yX6_add, Cond.code yX6_add cX6_add 6 none, Cond.fieldLink RX6 17 "SixNumbersModel" "most" "I", Cond.methodLink RX6 125 yX6_has, Cond.instanceMethod yX6_has, Cond.selects RX6 yX6_has yX6_has]
def wsX6_value_r3 : List Cond := [Cond.code yX6_has cX6_has 3 (some .boolean), Cond.methodLink RX6 122 yX6_isReached, Cond.instanceMethod yX6_isReached, Cond.selects RX6 yX6_isReached yX6_isReached, Cond.code yX6_isReached cX6_isReached 2 (some .boolean), Cond.methodLink RX6 110 yX6_allOf, Cond.instanceMethod yX6_allOf, Cond.selects RX6 yX6_allOf yX6_allOf, Cond.code yX6_allOf cX6_allOf 5 (some .long)]
def wsX6_value : List Cond := .code yX6_value cX6_value 5 (some .int) :: ((wsX6_value_r1 ++ (wsX6_value_r2 ++ wsX6_value_r3)) ++ wsX60)
def wsX6_missing_r1 : List Cond := [Cond.methodLink RX6 119 yX6_heap, Cond.instanceMethod yX6_heap, Cond.selects RX6 yX6_heap yX6_heap, Cond.initialized RX6, Cond.code yX6_heap cX6_heap 2 none, Cond.fieldLink RX6 64 "SixNumbersModel" "isHeap" "Z", Cond.fieldLink RX6 61 "SixNumbersModel" "items" "I", Cond.fieldLink RX6 96 "SixNumbersModel" "works" "I", Cond.fieldLink RX6 26 "SixNumbersModel" "work" "[I", Cond.fieldLink RX6 7 "SixNumbersModel" "numbers" "[I", Cond.methodLink RX6 107 yX6_fill, Cond.instanceMethod yX6_fill, Cond.selects RX6 yX6_fill yX6_fill, Cond.code yX6_fill cX6_fill 3 none, Cond.fieldLink RX6 30 "SixNumbersModel" "ways" "[J", Cond.methodLink RX6 99 yX6_bits, Cond.static yX6_bits, Cond.code yX6_bits cX6_bits 3 (some .int), Cond.methodLink RX6 103 yX6_join, Cond.instanceMethod yX6_join, Cond.selects RX6 yX6_join yX6_join, Cond.code yX6_join cX6_join 13 none, Cond.fieldLink RX6 34 "SixNumbersModel" "lefts" "[I", Cond.fieldLink RX6 37 "SixNumbersModel" "rights" "[I"]
def wsX6_missing_r2 : List Cond := [Cond.methodLink RX6 84 yX6_listOf, Cond.instanceMethod yX6_listOf, Cond.selects RX6 yX6_listOf yX6_listOf, Cond.code yX6_listOf cX6_listOf 5 (some .int), Cond.methodLink RX6 88 yX6_may, Cond.instanceMethod yX6_may, Cond.selects RX6 yX6_may yX6_may, Cond.code yX6_may cX6_may 2 (some .boolean), Cond.fieldLink RX6 13 "SixNumbersModel" "acts" "I", Cond.methodLink RX6 92 yX6_add, Cond.instanceMethod yX6_add, Cond.selects RX6 yX6_add yX6_add, Cond.code yX6_add cX6_add 6 none, Cond.fieldLink RX6 17 "SixNumbersModel" "most" "I", Cond.methodLink RX6 122 yX6_isReached, Cond.instanceMethod yX6_isReached, Cond.selects RX6 yX6_isReached yX6_isReached, Cond.code yX6_isReached cX6_isReached 2 (some .boolean), Cond.methodLink RX6 110 yX6_allOf, Cond.instanceMethod yX6_allOf, Cond.selects RX6 yX6_allOf yX6_allOf, Cond.code yX6_allOf cX6_allOf 5 (some .long)]
def wsX6_missing : List Cond := .code yX6_missing cX6_missing 2 (some .int) :: ((wsX6_missing_r1 ++ wsX6_missing_r2) ++ wsX60)
def wsX6_firstSet : List Cond := .code yX6_firstSet cX6_firstSet 4 (some .int) :: ([.fieldLink RX6 96 "SixNumbersModel" "works" "I", .fieldLink RX6 30 "SixNumbersModel" "ways" "[J", .methodLink RX6 99 yX6_bits, .static yX6_bits, .initialized RX6, .code yX6_bits cX6_bits 3 (some .int)] ++ wsX60)
def wsX6_nearest : List Cond := .code yX6_nearest cX6_nearest 6 (some .int) :: ([.methodLink RX6 122 yX6_isReached, .instanceMethod yX6_isReached, .selects RX6 yX6_isReached yX6_isReached, .initialized RX6, .code yX6_isReached cX6_isReached 2 (some .boolean), .methodLink RX6 110 yX6_allOf, .instanceMethod yX6_allOf, .selects RX6 yX6_allOf yX6_allOf, .code yX6_allOf cX6_allOf 5 (some .long), .fieldLink RX6 96 "SixNumbersModel" "works" "I", .fieldLink RX6 30 "SixNumbersModel" "ways" "[J"] ++ wsX60)
def wsX6_aim_r1 : List Cond := [Cond.constantLong RX6 70 (3000), Cond.constantLong RX6 129 (3), Cond.methodLink RX6 57 yX6_in, Cond.static yX6_in, Cond.initialized RX6, Cond.code yX6_in cX6_in 6 (some .boolean), Cond.methodLink RX6 119 yX6_heap, Cond.instanceMethod yX6_heap, Cond.selects RX6 yX6_heap yX6_heap, Cond.code yX6_heap cX6_heap 2 none, Cond.fieldLink RX6 64 "SixNumbersModel" "isHeap" "Z", Cond.fieldLink RX6 61 "SixNumbersModel" "items" "I", Cond.fieldLink RX6 96 "SixNumbersModel" "works" "I", Cond.fieldLink RX6 26 "SixNumbersModel" "work" "[I", Cond.fieldLink RX6 7 "SixNumbersModel" "numbers" "[I", Cond.methodLink RX6 107 yX6_fill, Cond.instanceMethod yX6_fill, Cond.selects RX6 yX6_fill yX6_fill, Cond.code yX6_fill cX6_fill 3 none, Cond.fieldLink RX6 30 "SixNumbersModel" "ways" "[J", Cond.methodLink RX6 99 yX6_bits, Cond.static yX6_bits, Cond.code yX6_bits cX6_bits 3 (some .int), Cond.methodLink RX6 103 yX6_join]
def wsX6_aim_r2 : List Cond := [Cond.instanceMethod yX6_join, Cond.selects RX6 yX6_join yX6_join, Cond.code yX6_join cX6_join 13 none, Cond.fieldLink RX6 34 "SixNumbersModel" "lefts" "[I", Cond.fieldLink RX6 37 "SixNumbersModel" "rights" "[I", Cond.methodLink RX6 84 yX6_listOf, Cond.instanceMethod yX6_listOf, Cond.selects RX6 yX6_listOf yX6_listOf, Cond.code yX6_listOf cX6_listOf 5 (some .int), Cond.methodLink RX6 88 yX6_may, Cond.instanceMethod yX6_may, Cond.selects RX6 yX6_may yX6_may, Cond.code yX6_may cX6_may 2 (some .boolean), Cond.fieldLink RX6 13 "SixNumbersModel" "acts" "I", Cond.methodLink RX6 92 yX6_add, Cond.instanceMethod yX6_add, Cond.selects RX6 yX6_add yX6_add, Cond.code yX6_add cX6_add 6 none, Cond.fieldLink RX6 17 "SixNumbersModel" "most" "I", Cond.methodLink RX6 131 yX6_firstSet, Cond.instanceMethod yX6_firstSet, Cond.selects RX6 yX6_firstSet yX6_firstSet, Cond.code yX6_firstSet cX6_firstSet 4 (some .int), Cond.methodLink RX6 134 yX6_nearest]
def wsX6_aim_r3 : List Cond := [Cond.instanceMethod yX6_nearest, Cond.selects RX6 yX6_nearest yX6_nearest, Cond.code yX6_nearest cX6_nearest 6 (some .int), Cond.methodLink RX6 122 yX6_isReached, Cond.instanceMethod yX6_isReached, Cond.selects RX6 yX6_isReached yX6_isReached, Cond.code yX6_isReached cX6_isReached 2 (some .boolean), Cond.methodLink RX6 110 yX6_allOf, Cond.instanceMethod yX6_allOf, Cond.selects RX6 yX6_allOf yX6_allOf, Cond.code yX6_allOf cX6_allOf 5 (some .long)]
def wsX6_aim : List Cond := .code yX6_aim cX6_aim 4 (some .int) :: ((wsX6_aim_r1 ++ (wsX6_aim_r2 ++ wsX6_aim_r3)) ++ wsX60)
def wsX6_later : List Cond := .code yX6_later cX6_later 3 none :: ([.fieldLink RX6 40 "SixNumbersModel" "todoSet" "[I", .fieldLink RX6 137 "SixNumbersModel" "todos" "I", .fieldLink RX6 43 "SixNumbersModel" "todoValue" "[I"] ++ wsX60)
def wsX6_put : List Cond := .code yX6_put cX6_put 2 none :: ([.fieldLink RX6 23 "SixNumbersModel" "out" "[I", .fieldLink RX6 81 "SixNumbersModel" "outSize" "I"] ++ wsX60)
def wsX6_putNumber : List Cond := .code yX6_putNumber cX6_putNumber 2 none :: ([.methodLink RX6 140 yX6_put, .instanceMethod yX6_put, .selects RX6 yX6_put yX6_put, .initialized RX6, .code yX6_put cX6_put 2 none, .fieldLink RX6 23 "SixNumbersModel" "out" "[I", .fieldLink RX6 81 "SixNumbersModel" "outSize" "I"] ++ wsX60)
def wsX6_other : List Cond := .code yX6_other cX6_other 4 (some .int) :: ([])
def wsX6_signOf : List Cond := .code yX6_signOf cX6_signOf 1 (some .int) :: ([])
def wsX6_part_r1 : List Cond := [Cond.fieldLink RX6 30 "SixNumbersModel" "ways" "[J", Cond.methodLink RX6 88 yX6_may, Cond.instanceMethod yX6_may, Cond.selects RX6 yX6_may yX6_may, Cond.initialized RX6, Cond.code yX6_may cX6_may 2 (some .boolean), Cond.fieldLink RX6 13 "SixNumbersModel" "acts" "I", Cond.methodLink RX6 144 yX6_other, Cond.instanceMethod yX6_other, Cond.selects RX6 yX6_other yX6_other, Cond.code yX6_other cX6_other 4 (some .int), Cond.methodLink RX6 148 yX6_later, Cond.instanceMethod yX6_later, Cond.selects RX6 yX6_later yX6_later, Cond.code yX6_later cX6_later 3 none, Cond.fieldLink RX6 40 "SixNumbersModel" "todoSet" "[I", Cond.fieldLink RX6 137 "SixNumbersModel" "todos" "I", Cond.fieldLink RX6 43 "SixNumbersModel" "todoValue" "[I", Cond.methodLink RX6 151 yX6_signOf, Cond.static yX6_signOf, Cond.code yX6_signOf cX6_signOf 1 (some .int), Cond.methodLink RX6 140 yX6_put, Cond.instanceMethod yX6_put, Cond.selects RX6 yX6_put yX6_put]
def wsX6_part_r2 : List Cond := [Cond.code yX6_put cX6_put 2 none, Cond.fieldLink RX6 23 "SixNumbersModel" "out" "[I", Cond.fieldLink RX6 81 "SixNumbersModel" "outSize" "I"]
def wsX6_part : List Cond := .code yX6_part cX6_part 9 none :: ((wsX6_part_r1 ++ wsX6_part_r2) ++ wsX60)
def wsX6_printed_r1 : List Cond := [Cond.fieldLink RX6 81 "SixNumbersModel" "outSize" "I", Cond.fieldLink RX6 137 "SixNumbersModel" "todos" "I", Cond.fieldLink RX6 40 "SixNumbersModel" "todoSet" "[I", Cond.fieldLink RX6 43 "SixNumbersModel" "todoValue" "[I", Cond.methodLink RX6 148 yX6_later, Cond.instanceMethod yX6_later, Cond.selects RX6 yX6_later yX6_later, Cond.initialized RX6, Cond.code yX6_later cX6_later 3 none, Cond.methodLink RX6 140 yX6_put, Cond.instanceMethod yX6_put, Cond.selects RX6 yX6_put yX6_put, Cond.code yX6_put cX6_put 2 none, Cond.fieldLink RX6 23 "SixNumbersModel" "out" "[I", Cond.methodLink RX6 99 yX6_bits, Cond.static yX6_bits, Cond.code yX6_bits cX6_bits 3 (some .int), Cond.methodLink RX6 154 yX6_putNumber, Cond.instanceMethod yX6_putNumber, Cond.selects RX6 yX6_putNumber yX6_putNumber, Cond.code yX6_putNumber cX6_putNumber 2 none, Cond.methodLink RX6 157 yX6_part, Cond.instanceMethod yX6_part, Cond.selects RX6 yX6_part yX6_part]
def wsX6_printed_r2 : List Cond := [Cond.code yX6_part cX6_part 9 none, Cond.fieldLink RX6 30 "SixNumbersModel" "ways" "[J", Cond.methodLink RX6 88 yX6_may, Cond.instanceMethod yX6_may, Cond.selects RX6 yX6_may yX6_may, Cond.code yX6_may cX6_may 2 (some .boolean), Cond.fieldLink RX6 13 "SixNumbersModel" "acts" "I", Cond.methodLink RX6 144 yX6_other, Cond.instanceMethod yX6_other, Cond.selects RX6 yX6_other yX6_other, Cond.code yX6_other cX6_other 4 (some .int), Cond.methodLink RX6 151 yX6_signOf, Cond.static yX6_signOf, Cond.code yX6_signOf cX6_signOf 1 (some .int)]
def wsX6_printed : List Cond := .code yX6_printed cX6_printed 5 (some .int) :: ((wsX6_printed_r1 ++ wsX6_printed_r2) ++ wsX60)
def wsX6_print_r1 : List Cond := [Cond.constantLong RX6 70 (3000), Cond.methodLink RX6 57 yX6_in, Cond.static yX6_in, Cond.initialized RX6, Cond.code yX6_in cX6_in 6 (some .boolean), Cond.methodLink RX6 119 yX6_heap, Cond.instanceMethod yX6_heap, Cond.selects RX6 yX6_heap yX6_heap, Cond.code yX6_heap cX6_heap 2 none, Cond.fieldLink RX6 64 "SixNumbersModel" "isHeap" "Z", Cond.fieldLink RX6 61 "SixNumbersModel" "items" "I", Cond.fieldLink RX6 96 "SixNumbersModel" "works" "I", Cond.fieldLink RX6 26 "SixNumbersModel" "work" "[I", Cond.fieldLink RX6 7 "SixNumbersModel" "numbers" "[I", Cond.methodLink RX6 107 yX6_fill, Cond.instanceMethod yX6_fill, Cond.selects RX6 yX6_fill yX6_fill, Cond.code yX6_fill cX6_fill 3 none, Cond.fieldLink RX6 30 "SixNumbersModel" "ways" "[J", Cond.methodLink RX6 99 yX6_bits, Cond.static yX6_bits, Cond.code yX6_bits cX6_bits 3 (some .int), Cond.methodLink RX6 103 yX6_join, Cond.instanceMethod yX6_join]
def wsX6_print_r2 : List Cond := [Cond.selects RX6 yX6_join yX6_join, Cond.code yX6_join cX6_join 13 none, Cond.fieldLink RX6 34 "SixNumbersModel" "lefts" "[I", Cond.fieldLink RX6 37 "SixNumbersModel" "rights" "[I", Cond.methodLink RX6 84 yX6_listOf, Cond.instanceMethod yX6_listOf, Cond.selects RX6 yX6_listOf yX6_listOf, Cond.code yX6_listOf cX6_listOf 5 (some .int), Cond.methodLink RX6 88 yX6_may, Cond.instanceMethod yX6_may, Cond.selects RX6 yX6_may yX6_may, Cond.code yX6_may cX6_may 2 (some .boolean), Cond.fieldLink RX6 13 "SixNumbersModel" "acts" "I", Cond.methodLink RX6 92 yX6_add, Cond.instanceMethod yX6_add, Cond.selects RX6 yX6_add yX6_add, Cond.code yX6_add cX6_add 6 none, Cond.fieldLink RX6 17 "SixNumbersModel" "most" "I", Cond.methodLink RX6 131 yX6_firstSet, Cond.instanceMethod yX6_firstSet, Cond.selects RX6 yX6_firstSet yX6_firstSet, Cond.code yX6_firstSet cX6_firstSet 4 (some .int), Cond.methodLink RX6 160 yX6_printed, Cond.instanceMethod yX6_printed]
def wsX6_print_r3 : List Cond := [Cond.selects RX6 yX6_printed yX6_printed, Cond.code yX6_printed cX6_printed 5 (some .int), Cond.fieldLink RX6 81 "SixNumbersModel" "outSize" "I", Cond.fieldLink RX6 137 "SixNumbersModel" "todos" "I", Cond.fieldLink RX6 40 "SixNumbersModel" "todoSet" "[I", Cond.fieldLink RX6 43 "SixNumbersModel" "todoValue" "[I", Cond.methodLink RX6 148 yX6_later, Cond.instanceMethod yX6_later, Cond.selects RX6 yX6_later yX6_later, Cond.code yX6_later cX6_later 3 none, Cond.methodLink RX6 140 yX6_put, Cond.instanceMethod yX6_put, Cond.selects RX6 yX6_put yX6_put, Cond.code yX6_put cX6_put 2 none, Cond.fieldLink RX6 23 "SixNumbersModel" "out" "[I", Cond.methodLink RX6 154 yX6_putNumber, Cond.instanceMethod yX6_putNumber, Cond.selects RX6 yX6_putNumber yX6_putNumber, Cond.code yX6_putNumber cX6_putNumber 2 none, Cond.methodLink RX6 157 yX6_part, Cond.instanceMethod yX6_part, Cond.selects RX6 yX6_part yX6_part, Cond.code yX6_part cX6_part 9 none, Cond.methodLink RX6 144 yX6_other]
def wsX6_print_r4 : List Cond := [Cond.instanceMethod yX6_other, Cond.selects RX6 yX6_other yX6_other, Cond.code yX6_other cX6_other 4 (some .int), Cond.methodLink RX6 151 yX6_signOf, Cond.static yX6_signOf, Cond.code yX6_signOf cX6_signOf 1 (some .int)]
def wsX6_print : List Cond := .code yX6_print cX6_print 3 (some .int) :: ((wsX6_print_r1 ++ (wsX6_print_r2 ++ (wsX6_print_r3 ++ wsX6_print_r4))) ++ wsX60)
def wsX6_printOf_r1 : List Cond := [Cond.constantLong RX6 70 (3000), Cond.fieldLink RX6 30 "SixNumbersModel" "ways" "[J", Cond.methodLink RX6 114 yX6_isSet, Cond.instanceMethod yX6_isSet, Cond.selects RX6 yX6_isSet yX6_isSet, Cond.initialized RX6, Cond.code yX6_isSet cX6_isSet 2 (some .boolean), Cond.fieldLink RX6 61 "SixNumbersModel" "items" "I", Cond.methodLink RX6 57 yX6_in, Cond.static yX6_in, Cond.code yX6_in cX6_in 6 (some .boolean), Cond.methodLink RX6 119 yX6_heap, Cond.instanceMethod yX6_heap, Cond.selects RX6 yX6_heap yX6_heap, Cond.code yX6_heap cX6_heap 2 none, Cond.fieldLink RX6 64 "SixNumbersModel" "isHeap" "Z", Cond.fieldLink RX6 96 "SixNumbersModel" "works" "I", Cond.fieldLink RX6 26 "SixNumbersModel" "work" "[I", Cond.fieldLink RX6 7 "SixNumbersModel" "numbers" "[I", Cond.methodLink RX6 107 yX6_fill, Cond.instanceMethod yX6_fill, Cond.selects RX6 yX6_fill yX6_fill, Cond.code yX6_fill cX6_fill 3 none, Cond.methodLink RX6 99 yX6_bits]
def wsX6_printOf_r2 : List Cond := [Cond.static yX6_bits, Cond.code yX6_bits cX6_bits 3 (some .int), Cond.methodLink RX6 103 yX6_join, Cond.instanceMethod yX6_join, Cond.selects RX6 yX6_join yX6_join, Cond.code yX6_join cX6_join 13 none, Cond.fieldLink RX6 34 "SixNumbersModel" "lefts" "[I", Cond.fieldLink RX6 37 "SixNumbersModel" "rights" "[I", Cond.methodLink RX6 84 yX6_listOf, Cond.instanceMethod yX6_listOf, Cond.selects RX6 yX6_listOf yX6_listOf, Cond.code yX6_listOf cX6_listOf 5 (some .int), Cond.methodLink RX6 88 yX6_may, Cond.instanceMethod yX6_may, Cond.selects RX6 yX6_may yX6_may, Cond.code yX6_may cX6_may 2 (some .boolean), Cond.fieldLink RX6 13 "SixNumbersModel" "acts" "I", Cond.methodLink RX6 92 yX6_add, Cond.instanceMethod yX6_add, Cond.selects RX6 yX6_add yX6_add, Cond.code yX6_add cX6_add 6 none, Cond.fieldLink RX6 17 "SixNumbersModel" "most" "I", Cond.methodLink RX6 160 yX6_printed, Cond.instanceMethod yX6_printed]
def wsX6_printOf_r3 : List Cond := [Cond.selects RX6 yX6_printed yX6_printed, Cond.code yX6_printed cX6_printed 5 (some .int), Cond.fieldLink RX6 81 "SixNumbersModel" "outSize" "I", Cond.fieldLink RX6 137 "SixNumbersModel" "todos" "I", Cond.fieldLink RX6 40 "SixNumbersModel" "todoSet" "[I", Cond.fieldLink RX6 43 "SixNumbersModel" "todoValue" "[I", Cond.methodLink RX6 148 yX6_later, Cond.instanceMethod yX6_later, Cond.selects RX6 yX6_later yX6_later, Cond.code yX6_later cX6_later 3 none, Cond.methodLink RX6 140 yX6_put, Cond.instanceMethod yX6_put, Cond.selects RX6 yX6_put yX6_put, Cond.code yX6_put cX6_put 2 none, Cond.fieldLink RX6 23 "SixNumbersModel" "out" "[I", Cond.methodLink RX6 154 yX6_putNumber, Cond.instanceMethod yX6_putNumber, Cond.selects RX6 yX6_putNumber yX6_putNumber, Cond.code yX6_putNumber cX6_putNumber 2 none, Cond.methodLink RX6 157 yX6_part, Cond.instanceMethod yX6_part, Cond.selects RX6 yX6_part yX6_part, Cond.code yX6_part cX6_part 9 none, Cond.methodLink RX6 144 yX6_other]
def wsX6_printOf_r4 : List Cond := [Cond.instanceMethod yX6_other, Cond.selects RX6 yX6_other yX6_other, Cond.code yX6_other cX6_other 4 (some .int), Cond.methodLink RX6 151 yX6_signOf, Cond.static yX6_signOf, Cond.code yX6_signOf cX6_signOf 1 (some .int)]
def wsX6_printOf : List Cond := .code yX6_printOf cX6_printOf 3 (some .int) :: ((wsX6_printOf_r1 ++ (wsX6_printOf_r2 ++ (wsX6_printOf_r3 ++ wsX6_printOf_r4))) ++ wsX60)
def wsX6_out : List Cond := .code yX6_out cX6_out 2 (some .int) :: ([.fieldLink RX6 81 "SixNumbersModel" "outSize" "I", .fieldLink RX6 23 "SixNumbersModel" "out" "[I", .methodLink RX6 57 yX6_in, .static yX6_in, .initialized RX6, .code yX6_in cX6_in 6 (some .boolean)] ++ wsX60)
def wsX6_card : List Cond := .code yX6_card cX6_card 2 (some .int) :: ([.constantLong RX6 55 (100), .fieldLink RX6 78 "SixNumbersModel" "cards" "I", .fieldLink RX6 20 "SixNumbersModel" "box" "[I", .methodLink RX6 57 yX6_in, .static yX6_in, .initialized RX6, .code yX6_in cX6_in 6 (some .boolean)] ++ wsX60)
def wsX6_empty : List Cond := .code yX6_empty cX6_empty 2 (some .int) :: ([.fieldLink RX6 78 "SixNumbersModel" "cards" "I"] ++ wsX60)
def wsX6_drawn_r1 : List Cond := [Cond.fieldLink RX6 96 "SixNumbersModel" "works" "I", Cond.fieldLink RX6 78 "SixNumbersModel" "cards" "I", Cond.fieldLink RX6 26 "SixNumbersModel" "work" "[I", Cond.fieldLink RX6 20 "SixNumbersModel" "box" "[I", Cond.methodLink RX6 107 yX6_fill, Cond.instanceMethod yX6_fill, Cond.selects RX6 yX6_fill yX6_fill, Cond.initialized RX6, Cond.code yX6_fill cX6_fill 3 none, Cond.fieldLink RX6 30 "SixNumbersModel" "ways" "[J", Cond.fieldLink RX6 64 "SixNumbersModel" "isHeap" "Z", Cond.methodLink RX6 99 yX6_bits, Cond.static yX6_bits, Cond.code yX6_bits cX6_bits 3 (some .int), Cond.methodLink RX6 103 yX6_join, Cond.instanceMethod yX6_join, Cond.selects RX6 yX6_join yX6_join, Cond.code yX6_join cX6_join 13 none, Cond.fieldLink RX6 34 "SixNumbersModel" "lefts" "[I", Cond.fieldLink RX6 37 "SixNumbersModel" "rights" "[I", Cond.methodLink RX6 84 yX6_listOf, Cond.instanceMethod yX6_listOf, Cond.selects RX6 yX6_listOf yX6_listOf, Cond.code yX6_listOf cX6_listOf 5 (some .int)]
def wsX6_drawn_r2 : List Cond := [Cond.methodLink RX6 88 yX6_may, Cond.instanceMethod yX6_may, Cond.selects RX6 yX6_may yX6_may, Cond.code yX6_may cX6_may 2 (some .boolean), Cond.fieldLink RX6 13 "SixNumbersModel" "acts" "I", Cond.methodLink RX6 92 yX6_add, Cond.instanceMethod yX6_add, Cond.selects RX6 yX6_add yX6_add, Cond.code yX6_add cX6_add 6 none, Cond.fieldLink RX6 17 "SixNumbersModel" "most" "I"]
def wsX6_drawn : List Cond := .code yX6_drawn cX6_drawn 3 none :: ((wsX6_drawn_r1 ++ wsX6_drawn_r2) ++ wsX60)
def wsX6_common : List Cond := .code yX6_common cX6_common 5 (some .int) :: ([])
def wsX6_draws_r1 : List Cond := [Cond.constantLong RX6 164 (4), Cond.constantLong RX6 70 (3000), Cond.constantLong RX6 129 (3), Cond.fieldLink RX6 78 "SixNumbersModel" "cards" "I", Cond.methodLink RX6 57 yX6_in, Cond.static yX6_in, Cond.initialized RX6, Cond.code yX6_in cX6_in 6 (some .boolean), Cond.methodLink RX6 99 yX6_bits, Cond.static yX6_bits, Cond.code yX6_bits cX6_bits 3 (some .int), Cond.methodLink RX6 166 yX6_drawn, Cond.instanceMethod yX6_drawn, Cond.selects RX6 yX6_drawn yX6_drawn, Cond.code yX6_drawn cX6_drawn 3 none, Cond.fieldLink RX6 96 "SixNumbersModel" "works" "I", Cond.fieldLink RX6 26 "SixNumbersModel" "work" "[I", Cond.fieldLink RX6 20 "SixNumbersModel" "box" "[I", Cond.methodLink RX6 107 yX6_fill, Cond.instanceMethod yX6_fill, Cond.selects RX6 yX6_fill yX6_fill, Cond.code yX6_fill cX6_fill 3 none, Cond.fieldLink RX6 30 "SixNumbersModel" "ways" "[J", Cond.fieldLink RX6 64 "SixNumbersModel" "isHeap" "Z"]
def wsX6_draws_r2 : List Cond := [Cond.methodLink RX6 103 yX6_join, Cond.instanceMethod yX6_join, Cond.selects RX6 yX6_join yX6_join, Cond.code yX6_join cX6_join 13 none, Cond.fieldLink RX6 34 "SixNumbersModel" "lefts" "[I", Cond.fieldLink RX6 37 "SixNumbersModel" "rights" "[I", Cond.methodLink RX6 84 yX6_listOf, Cond.instanceMethod yX6_listOf, Cond.selects RX6 yX6_listOf yX6_listOf, Cond.code yX6_listOf cX6_listOf 5 (some .int), Cond.methodLink RX6 88 yX6_may, Cond.instanceMethod yX6_may, Cond.selects RX6 yX6_may yX6_may, Cond.code yX6_may cX6_may 2 (some .boolean), Cond.fieldLink RX6 13 "SixNumbersModel" "acts" "I", Cond.methodLink RX6 92 yX6_add, Cond.instanceMethod yX6_add, Cond.selects RX6 yX6_add yX6_add, Cond.code yX6_add cX6_add 6 none, Cond.fieldLink RX6 17 "SixNumbersModel" "most" "I", Cond.methodLink RX6 122 yX6_isReached, Cond.instanceMethod yX6_isReached, Cond.selects RX6 yX6_isReached yX6_isReached, Cond.code yX6_isReached cX6_isReached 2 (some .boolean)]
def wsX6_draws_r3 : List Cond := [Cond.methodLink RX6 110 yX6_allOf, Cond.instanceMethod yX6_allOf, Cond.selects RX6 yX6_allOf yX6_allOf, Cond.code yX6_allOf cX6_allOf 5 (some .long), Cond.methodLink RX6 169 yX6_common, Cond.static yX6_common, Cond.code yX6_common cX6_common 5 (some .int)]
def wsX6_draws : List Cond := .code yX6_draws cX6_draws 7 (some .int) :: ((wsX6_draws_r1 ++ (wsX6_draws_r2 ++ wsX6_draws_r3)) ++ wsX60)
def wsX6_most_r1 : List Cond := [Cond.constantLong RX6 164 (4), Cond.fieldLink RX6 46 "SixNumbersModel" "counts" "[I", Cond.fieldLink RX6 78 "SixNumbersModel" "cards" "I", Cond.methodLink RX6 57 yX6_in, Cond.static yX6_in, Cond.initialized RX6, Cond.code yX6_in cX6_in 6 (some .boolean), Cond.methodLink RX6 99 yX6_bits, Cond.static yX6_bits, Cond.code yX6_bits cX6_bits 3 (some .int), Cond.methodLink RX6 166 yX6_drawn, Cond.instanceMethod yX6_drawn, Cond.selects RX6 yX6_drawn yX6_drawn, Cond.code yX6_drawn cX6_drawn 3 none, Cond.fieldLink RX6 96 "SixNumbersModel" "works" "I", Cond.fieldLink RX6 26 "SixNumbersModel" "work" "[I", Cond.fieldLink RX6 20 "SixNumbersModel" "box" "[I", Cond.methodLink RX6 107 yX6_fill, Cond.instanceMethod yX6_fill, Cond.selects RX6 yX6_fill yX6_fill, Cond.code yX6_fill cX6_fill 3 none, Cond.fieldLink RX6 30 "SixNumbersModel" "ways" "[J", Cond.fieldLink RX6 64 "SixNumbersModel" "isHeap" "Z", Cond.methodLink RX6 103 yX6_join]
def wsX6_most_r2 : List Cond := [Cond.instanceMethod yX6_join, Cond.selects RX6 yX6_join yX6_join, Cond.code yX6_join cX6_join 13 none, Cond.fieldLink RX6 34 "SixNumbersModel" "lefts" "[I", Cond.fieldLink RX6 37 "SixNumbersModel" "rights" "[I", Cond.methodLink RX6 84 yX6_listOf, Cond.instanceMethod yX6_listOf, Cond.selects RX6 yX6_listOf yX6_listOf, Cond.code yX6_listOf cX6_listOf 5 (some .int), Cond.methodLink RX6 88 yX6_may, Cond.instanceMethod yX6_may, Cond.selects RX6 yX6_may yX6_may, Cond.code yX6_may cX6_may 2 (some .boolean), Cond.fieldLink RX6 13 "SixNumbersModel" "acts" "I", Cond.methodLink RX6 92 yX6_add, Cond.instanceMethod yX6_add, Cond.selects RX6 yX6_add yX6_add, Cond.code yX6_add cX6_add 6 none, Cond.fieldLink RX6 17 "SixNumbersModel" "most" "I", Cond.methodLink RX6 122 yX6_isReached, Cond.instanceMethod yX6_isReached, Cond.selects RX6 yX6_isReached yX6_isReached, Cond.code yX6_isReached cX6_isReached 2 (some .boolean), Cond.methodLink RX6 110 yX6_allOf]
def wsX6_most_r3 : List Cond := [Cond.instanceMethod yX6_allOf, Cond.selects RX6 yX6_allOf yX6_allOf, Cond.code yX6_allOf cX6_allOf 5 (some .long)]
def wsX6_most : List Cond := .code yX6_most cX6_most 5 (some .int) :: ((wsX6_most_r1 ++ (wsX6_most_r2 ++ wsX6_most_r3)) ++ wsX60)
def wsX6_spans_r1 : List Cond := [Cond.methodLink RX6 107 yX6_fill, Cond.instanceMethod yX6_fill, Cond.selects RX6 yX6_fill yX6_fill, Cond.initialized RX6, Cond.code yX6_fill cX6_fill 3 none, Cond.fieldLink RX6 96 "SixNumbersModel" "works" "I", Cond.fieldLink RX6 30 "SixNumbersModel" "ways" "[J", Cond.fieldLink RX6 26 "SixNumbersModel" "work" "[I", Cond.fieldLink RX6 64 "SixNumbersModel" "isHeap" "Z", Cond.methodLink RX6 99 yX6_bits, Cond.static yX6_bits, Cond.code yX6_bits cX6_bits 3 (some .int), Cond.methodLink RX6 103 yX6_join, Cond.instanceMethod yX6_join, Cond.selects RX6 yX6_join yX6_join, Cond.code yX6_join cX6_join 13 none, Cond.fieldLink RX6 34 "SixNumbersModel" "lefts" "[I", Cond.fieldLink RX6 37 "SixNumbersModel" "rights" "[I", Cond.methodLink RX6 84 yX6_listOf, Cond.instanceMethod yX6_listOf, Cond.selects RX6 yX6_listOf yX6_listOf, Cond.code yX6_listOf cX6_listOf 5 (some .int), Cond.methodLink RX6 88 yX6_may, Cond.instanceMethod yX6_may]
def wsX6_spans_r2 : List Cond := [Cond.selects RX6 yX6_may yX6_may, Cond.code yX6_may cX6_may 2 (some .boolean), Cond.fieldLink RX6 13 "SixNumbersModel" "acts" "I", Cond.methodLink RX6 92 yX6_add, Cond.instanceMethod yX6_add, Cond.selects RX6 yX6_add yX6_add, Cond.code yX6_add cX6_add 6 none, Cond.fieldLink RX6 17 "SixNumbersModel" "most" "I", Cond.methodLink RX6 122 yX6_isReached, Cond.instanceMethod yX6_isReached, Cond.selects RX6 yX6_isReached yX6_isReached, Cond.code yX6_isReached cX6_isReached 2 (some .boolean), Cond.methodLink RX6 110 yX6_allOf, Cond.instanceMethod yX6_allOf, Cond.selects RX6 yX6_allOf yX6_allOf, Cond.code yX6_allOf cX6_allOf 5 (some .long)]
def wsX6_spans : List Cond := .code yX6_spans cX6_spans 4 (some .boolean) :: ((wsX6_spans_r1 ++ wsX6_spans_r2) ++ wsX60)
def wsX6_span_r1 : List Cond := [Cond.constantLong RX6 129 (3), Cond.constantLong RX6 55 (100), Cond.fieldLink RX6 96 "SixNumbersModel" "works" "I", Cond.fieldLink RX6 26 "SixNumbersModel" "work" "[I", Cond.methodLink RX6 57 yX6_in, Cond.static yX6_in, Cond.initialized RX6, Cond.code yX6_in cX6_in 6 (some .boolean), Cond.methodLink RX6 172 yX6_spans, Cond.instanceMethod yX6_spans, Cond.selects RX6 yX6_spans yX6_spans, Cond.code yX6_spans cX6_spans 4 (some .boolean), Cond.methodLink RX6 107 yX6_fill, Cond.instanceMethod yX6_fill, Cond.selects RX6 yX6_fill yX6_fill, Cond.code yX6_fill cX6_fill 3 none, Cond.fieldLink RX6 30 "SixNumbersModel" "ways" "[J", Cond.fieldLink RX6 64 "SixNumbersModel" "isHeap" "Z", Cond.methodLink RX6 99 yX6_bits, Cond.static yX6_bits, Cond.code yX6_bits cX6_bits 3 (some .int), Cond.methodLink RX6 103 yX6_join, Cond.instanceMethod yX6_join, Cond.selects RX6 yX6_join yX6_join]
def wsX6_span_r2 : List Cond := [Cond.code yX6_join cX6_join 13 none, Cond.fieldLink RX6 34 "SixNumbersModel" "lefts" "[I", Cond.fieldLink RX6 37 "SixNumbersModel" "rights" "[I", Cond.methodLink RX6 84 yX6_listOf, Cond.instanceMethod yX6_listOf, Cond.selects RX6 yX6_listOf yX6_listOf, Cond.code yX6_listOf cX6_listOf 5 (some .int), Cond.methodLink RX6 88 yX6_may, Cond.instanceMethod yX6_may, Cond.selects RX6 yX6_may yX6_may, Cond.code yX6_may cX6_may 2 (some .boolean), Cond.fieldLink RX6 13 "SixNumbersModel" "acts" "I", Cond.methodLink RX6 92 yX6_add, Cond.instanceMethod yX6_add, Cond.selects RX6 yX6_add yX6_add, Cond.code yX6_add cX6_add 6 none, Cond.fieldLink RX6 17 "SixNumbersModel" "most" "I", Cond.methodLink RX6 122 yX6_isReached, Cond.instanceMethod yX6_isReached, Cond.selects RX6 yX6_isReached yX6_isReached, Cond.code yX6_isReached cX6_isReached 2 (some .boolean), Cond.methodLink RX6 110 yX6_allOf, Cond.instanceMethod yX6_allOf, Cond.selects RX6 yX6_allOf yX6_allOf]
def wsX6_span_r3 : List Cond := [Cond.code yX6_allOf cX6_allOf 5 (some .long)]
def wsX6_span : List Cond := .code yX6_span cX6_span 7 (some .int) :: ((wsX6_span_r1 ++ (wsX6_span_r2 ++ wsX6_span_r3)) ++ wsX60)
def wsX6_root : List Cond := .code yX6_root cX6_root 2 (some .int) :: ([])
def wsX6_signed : List Cond := .code yX6_signed cX6_signed 4 (some .int) :: ([.methodLink RX6 175 yX6_root, .static yX6_root, .initialized RX6, .code yX6_root cX6_root 2 (some .int)])
def wsX6_signs : List Cond := .code yX6_signs cX6_signs 8 (some .int) :: ([.constantLong RX6 55 (100), .constantLong RX6 178 (5040), .fieldLink RX6 49 "SixNumbersModel" "far" "[I", .fieldLink RX6 52 "SixNumbersModel" "line" "[I", .methodLink RX6 57 yX6_in, .static yX6_in, .initialized RX6, .code yX6_in cX6_in 6 (some .boolean), .methodLink RX6 180 yX6_signed, .static yX6_signed, .code yX6_signed cX6_signed 4 (some .int), .methodLink RX6 175 yX6_root, .static yX6_root, .code yX6_root cX6_root 2 (some .int)] ++ wsX60)
def wsJ9_abs_0f7a4 : List Cond := .code yJ9_abs_0f7a4 cJ9_abs_0f7a4 1 (some .int) :: ([])
def wsJ9_max_7cf53 : List Cond := .code yJ9_max_7cf53 cJ9_max_7cf53 2 (some .int) :: ([])
def wsJ9_min_7cf53 : List Cond := .code yJ9_min_7cf53 cJ9_min_7cf53 2 (some .int) :: ([])
def wsL_law_r1 : List Cond := [Cond.classLink RL 7 RX5, Cond.instantiable RX5 6, Cond.initialized RX5, Cond.classLink RL 10 RX6, Cond.instantiable RX6 20, Cond.initialized RX6, Cond.methodLink RL 9 yX5_init, Cond.instanceMethod yX5_init, Cond.code yX5_init cX5_init 1 none, Cond.methodLink RX5 1 objectInit, Cond.instanceMethod objectInit, Cond.code objectInit ⟨#[0xb1]⟩ 1 none, Cond.classLink RX5 7 RX3, Cond.instantiable RX3 2, Cond.initialized RX3, Cond.fieldLink RX5 10 "SixNumbers" "rules" "LSixNumbers$Rules;", Cond.classLink RX5 16 RX1, Cond.instantiable RX1 8, Cond.initialized RX1, Cond.fieldLink RX5 21 "SixNumbers" "heap" "LSixNumbers$Heap;", Cond.fieldLink RX5 25 "SixNumbers" "trial" "LSixNumbers$Heap;", Cond.classLink RX5 28 RX0, Cond.instantiable RX0 6, Cond.initialized RX0]
def wsL_law_r2 : List Cond := [Cond.fieldLink RX5 33 "SixNumbers" "box" "LSixNumbers$Box;", Cond.classLink RX5 37 RX2, Cond.instantiable RX2 2, Cond.initialized RX2, Cond.fieldLink RX5 40 "SixNumbers" "bytes" "LSixNumbers$Out;", Cond.classLink RX5 44 RX4, Cond.instantiable RX4 4, Cond.initialized RX4, Cond.fieldLink RX5 47 "SixNumbers" "chain" "LSixNumbers$Signs;", Cond.instanceMethod yX3_init, Cond.code yX3_init cX3_init 1 none, Cond.methodLink RX3 3 objectInit, Cond.fieldLink RX3 9 "SixNumbers$Rules" "acts" "I", Cond.fieldLink RX3 15 "SixNumbers$Rules" "most" "I", Cond.methodLink RX5 18 yX1_init, Cond.instanceMethod yX1_init, Cond.code yX1_init cX1_init 3 none, Cond.methodLink RX1 3 objectInit, Cond.fieldLink RX1 9 "SixNumbers$Heap" "size" "I", Cond.fieldLink RX1 15 "SixNumbers$Heap" "changed" "I", Cond.fieldLink RX1 18 "SixNumbers$Heap" "rules" "LSixNumbers$Rules;", Cond.arrayClass .int, Cond.fieldLink RX1 22 "SixNumbers$Heap" "items" "[I", Cond.classLink RX1 26 "[[J"]
def wsL_law_r3 : List Cond := [Cond.arrayClass .long, Cond.fieldLink RX1 28 "SixNumbers$Heap" "counts" "[[J", Cond.classLink RX1 31 "[[I", Cond.fieldLink RX1 33 "SixNumbers$Heap" "found" "[[I", Cond.fieldLink RX1 36 "SixNumbers$Heap" "founds" "[I", Cond.fieldLink RX1 39 "SixNumbers$Heap" "holders" "[I", Cond.methodLink RX5 30 yX0_init, Cond.instanceMethod yX0_init, Cond.code yX0_init cX0_init 2 none, Cond.methodLink RX0 3 objectInit, Cond.fieldLink RX0 9 "SixNumbers$Box" "cards" "[I", Cond.fieldLink RX0 15 "SixNumbers$Box" "size" "I", Cond.classLink RX0 19 "[[I", Cond.fieldLink RX0 21 "SixNumbers$Box" "tallies" "[[I", Cond.fieldLink RX0 24 "SixNumbers$Box" "totals" "[I", Cond.fieldLink RX0 27 "SixNumbers$Box" "counted" "I", Cond.fieldLink RX0 30 "SixNumbers$Box" "trial" "LSixNumbers$Heap;", Cond.instanceMethod yX2_init, Cond.code yX2_init cX2_init 1 none, Cond.methodLink RX2 3 objectInit, Cond.arrayClass .char, Cond.fieldLink RX2 9 "SixNumbers$Out" "text" "[C", Cond.fieldLink RX2 15 "SixNumbers$Out" "length" "I", Cond.instanceMethod yX4_init]
def wsL_law_r4 : List Cond := [Cond.code yX4_init cX4_init 1 none, Cond.methodLink RX4 3 objectInit, Cond.fieldLink RX4 9 "SixNumbers$Signs" "steps" "[I", Cond.fieldLink RX4 15 "SixNumbers$Signs" "queue" "[I", Cond.fieldLink RX4 18 "SixNumbers$Signs" "waiting" "I", Cond.fieldLink RX4 22 "SixNumbers$Signs" "from" "I", Cond.methodLink RL 12 yX6_init, Cond.instanceMethod yX6_init, Cond.code yX6_init cX6_init 1 none, Cond.methodLink RX6 1 objectInit, Cond.fieldLink RX6 7 "SixNumbersModel" "numbers" "[I", Cond.fieldLink RX6 13 "SixNumbersModel" "acts" "I", Cond.fieldLink RX6 17 "SixNumbersModel" "most" "I", Cond.fieldLink RX6 20 "SixNumbersModel" "box" "[I", Cond.fieldLink RX6 23 "SixNumbersModel" "out" "[I", Cond.fieldLink RX6 26 "SixNumbersModel" "work" "[I", Cond.constant RX6 29 (192064), Cond.fieldLink RX6 30 "SixNumbersModel" "ways" "[J", Cond.fieldLink RX6 34 "SixNumbersModel" "lefts" "[I", Cond.fieldLink RX6 37 "SixNumbersModel" "rights" "[I", Cond.fieldLink RX6 40 "SixNumbersModel" "todoSet" "[I", Cond.fieldLink RX6 43 "SixNumbersModel" "todoValue" "[I", Cond.fieldLink RX6 46 "SixNumbersModel" "counts" "[I", Cond.fieldLink RX6 49 "SixNumbersModel" "far" "[I"]
def wsL_law_r5 : List Cond := [Cond.fieldLink RX6 52 "SixNumbersModel" "line" "[I", Cond.methodLink RL 13 yX5_item, Cond.instanceMethod yX5_item, Cond.selects RX5 yX5_item yX5_item, Cond.code yX5_item cX5_item 3 (some .int), Cond.methodLink RX5 51 yX5_isOutside, Cond.static yX5_isOutside, Cond.code yX5_isOutside cX5_isOutside 3 (some .boolean), Cond.methodLink RX5 59 yX1_place, Cond.instanceMethod yX1_place, Cond.selects RX1 yX1_place yX1_place, Cond.code yX1_place cX1_place 3 none, Cond.methodLink RX1 42 Lib.Math.max.name, Cond.static Lib.Math.max.name, Cond.initialized "java/lang/Math", Cond.code Lib.Math.max.name Lib.Math.max.code 2 (some .int), Cond.methodLink RL 17 yX6_item, Cond.instanceMethod yX6_item, Cond.selects RX6 yX6_item yX6_item, Cond.code yX6_item cX6_item 2 (some .int), Cond.constantLong RX6 55 (100), Cond.fieldLink RX6 61 "SixNumbersModel" "items" "I", Cond.fieldLink RX6 64 "SixNumbersModel" "isHeap" "Z", Cond.methodLink RX6 57 yX6_in]
def wsL_law_r6 : List Cond := [Cond.static yX6_in, Cond.code yX6_in cX6_in 6 (some .boolean), Cond.methodLink RL 18 yX5_set, Cond.instanceMethod yX5_set, Cond.selects RX5 yX5_set yX5_set, Cond.code yX5_set cX5_set 4 (some .int), Cond.methodLink RX5 63 yX1_itemAt, Cond.instanceMethod yX1_itemAt, Cond.selects RX1 yX1_itemAt yX1_itemAt, Cond.code yX1_itemAt cX1_itemAt 2 (some .int), Cond.methodLink RL 22 yX6_set, Cond.instanceMethod yX6_set, Cond.selects RX6 yX6_set yX6_set, Cond.code yX6_set cX6_set 4 (some .int), Cond.methodLink RL 23 yX5_cut, Cond.instanceMethod yX5_cut, Cond.selects RX5 yX5_cut yX5_cut, Cond.code yX5_cut cX5_cut 3 (some .int), Cond.methodLink RX5 67 yX1_shorten, Cond.instanceMethod yX1_shorten, Cond.selects RX1 yX1_shorten yX1_shorten, Cond.code yX1_shorten cX1_shorten 3 none, Cond.methodLink RX1 48 Lib.Math.min.name, Cond.static Lib.Math.min.name]
def wsL_law_r7 : List Cond := [Cond.code Lib.Math.min.name Lib.Math.min.code 2 (some .int), Cond.methodLink RL 26 yX6_cut, Cond.instanceMethod yX6_cut, Cond.selects RX6 yX6_cut yX6_cut, Cond.code yX6_cut cX6_cut 3 (some .int), Cond.methodLink RL 27 yX5_rule, Cond.instanceMethod yX5_rule, Cond.selects RX5 yX5_rule yX5_rule, Cond.code yX5_rule cX5_rule 5 (some .int), Cond.methodLink RX5 77 yX1_changeEverySet, Cond.instanceMethod yX1_changeEverySet, Cond.selects RX1 yX1_changeEverySet yX1_changeEverySet, Cond.code yX1_changeEverySet cX1_changeEverySet 1 none, Cond.methodLink RX5 80 yX0_forgetTallies, Cond.instanceMethod yX0_forgetTallies, Cond.selects RX0 yX0_forgetTallies yX0_forgetTallies, Cond.code yX0_forgetTallies cX0_forgetTallies 1 none, Cond.methodLink RL 30 yX6_rule, Cond.instanceMethod yX6_rule, Cond.selects RX6 yX6_rule yX6_rule, Cond.code yX6_rule cX6_rule 4 (some .int), Cond.constantLong RX6 68 (15), Cond.constantLong RX6 70 (3000), Cond.methodLink RL 31 yX5_told]
def wsL_law_r8 : List Cond := [Cond.instanceMethod yX5_told, Cond.selects RX5 yX5_told yX5_told, Cond.code yX5_told cX5_told 2 (some .int), Cond.methodLink RX5 87 yX0_cardAt, Cond.instanceMethod yX0_cardAt, Cond.selects RX0 yX0_cardAt yX0_cardAt, Cond.code yX0_cardAt cX0_cardAt 2 (some .int), Cond.methodLink RL 34 yX6_told, Cond.instanceMethod yX6_told, Cond.selects RX6 yX6_told yX6_told, Cond.code yX6_told cX6_told 2 (some .int), Cond.constantLong RX6 72 (10), Cond.constantLong RX6 74 (20), Cond.constantLong RX6 76 (29), Cond.fieldLink RX6 78 "SixNumbersModel" "cards" "I", Cond.fieldLink RX6 81 "SixNumbersModel" "outSize" "I", Cond.methodLink RL 35 yX5_ways, Cond.instanceMethod yX5_ways, Cond.selects RX5 yX5_ways yX5_ways, Cond.code yX5_ways cX5_ways 3 (some .long), Cond.constantLong RX5 94 (-1002), Cond.methodLink RX5 90 yX5_isNoWholeSet, Cond.instanceMethod yX5_isNoWholeSet, Cond.selects RX5 yX5_isNoWholeSet yX5_isNoWholeSet]
def wsL_law_r9 : List Cond := [Cond.code yX5_isNoWholeSet cX5_isNoWholeSet 2 (some .boolean), Cond.methodLink RX5 107 yX1_knows, Cond.instanceMethod yX1_knows, Cond.selects RX1 yX1_knows yX1_knows, Cond.code yX1_knows cX1_knows 2 (some .boolean), Cond.methodLink RX5 96 yX1_refresh, Cond.instanceMethod yX1_refresh, Cond.selects RX1 yX1_refresh yX1_refresh, Cond.code yX1_refresh cX1_refresh 2 none, Cond.methodLink RX1 51 yX1_forget, Cond.instanceMethod yX1_forget, Cond.selects RX1 yX1_forget yX1_forget, Cond.code yX1_forget cX1_forget 4 none, Cond.methodLink RX1 55 yX1_knows, Cond.methodLink RX1 59 yX1_make, Cond.instanceMethod yX1_make, Cond.selects RX1 yX1_make yX1_make, Cond.code yX1_make cX1_make 4 none, Cond.methodLink RX1 62 yX1_add, Cond.instanceMethod yX1_add, Cond.selects RX1 yX1_add yX1_add, Cond.code yX1_add cX1_add 6 none, Cond.methodLink RX1 66 yX1_join, Cond.instanceMethod yX1_join]
def wsL_law_r10 : List Cond := [Cond.selects RX1 yX1_join yX1_join, Cond.code yX1_join cX1_join 14 none, Cond.methodLink RX1 78 Lib.Math.abs.name, Cond.static Lib.Math.abs.name, Cond.code Lib.Math.abs.name Lib.Math.abs.code 1 (some .int), Cond.methodLink RX1 70 yX3_allow, Cond.instanceMethod yX3_allow, Cond.selects RX3 yX3_allow yX3_allow, Cond.code yX3_allow cX3_allow 2 (some .boolean), Cond.methodLink RX5 99 yX1_countOf, Cond.instanceMethod yX1_countOf, Cond.selects RX1 yX1_countOf yX1_countOf, Cond.code yX1_countOf cX1_countOf 3 (some .long), Cond.methodLink RL 39 yX6_ways, Cond.instanceMethod yX6_ways, Cond.selects RX6 yX6_ways yX6_ways, Cond.code yX6_ways cX6_ways 3 (some .long), Cond.constantLong RX6 117 (-1002), Cond.methodLink RX6 114 yX6_isSet, Cond.instanceMethod yX6_isSet, Cond.selects RX6 yX6_isSet yX6_isSet, Cond.code yX6_isSet cX6_isSet 2 (some .boolean), Cond.methodLink RX6 119 yX6_heap, Cond.instanceMethod yX6_heap]
def wsL_law_r11 : List Cond := [Cond.selects RX6 yX6_heap yX6_heap, Cond.code yX6_heap cX6_heap 2 none, Cond.fieldLink RX6 96 "SixNumbersModel" "works" "I", Cond.methodLink RX6 107 yX6_fill, Cond.instanceMethod yX6_fill, Cond.selects RX6 yX6_fill yX6_fill, Cond.code yX6_fill cX6_fill 3 none, Cond.methodLink RX6 99 yX6_bits, Cond.static yX6_bits, Cond.code yX6_bits cX6_bits 3 (some .int), Cond.methodLink RX6 103 yX6_join, Cond.instanceMethod yX6_join, Cond.selects RX6 yX6_join yX6_join, Cond.code yX6_join cX6_join 13 none, Cond.methodLink RX6 84 yX6_listOf, Cond.instanceMethod yX6_listOf, Cond.selects RX6 yX6_listOf yX6_listOf, Cond.code yX6_listOf cX6_listOf 5 (some .int), Cond.methodLink RX6 88 yX6_may, Cond.instanceMethod yX6_may, Cond.selects RX6 yX6_may yX6_may, Cond.code yX6_may cX6_may 2 (some .boolean), Cond.methodLink RX6 92 yX6_add, Cond.instanceMethod yX6_add]
def wsL_law_r12 : List Cond := [Cond.selects RX6 yX6_add yX6_add, Cond.code yX6_add cX6_add 6 none, Cond.methodLink RL 40 yX5_all, Cond.instanceMethod yX5_all, Cond.selects RX5 yX5_all yX5_all, Cond.code yX5_all cX5_all 2 (some .long), Cond.methodLink RX5 103 yX1_countOfAllSets, Cond.instanceMethod yX1_countOfAllSets, Cond.selects RX1 yX1_countOfAllSets yX1_countOfAllSets, Cond.code yX1_countOfAllSets cX1_countOfAllSets 5 (some .long), Cond.methodLink RX1 82 yX1_countOf, Cond.methodLink RL 44 yX6_all, Cond.instanceMethod yX6_all, Cond.selects RX6 yX6_all yX6_all, Cond.code yX6_all cX6_all 2 (some .long), Cond.methodLink RX6 110 yX6_allOf, Cond.instanceMethod yX6_allOf, Cond.selects RX6 yX6_allOf yX6_allOf, Cond.code yX6_allOf cX6_allOf 5 (some .long), Cond.methodLink RL 45 yX5_reached, Cond.instanceMethod yX5_reached, Cond.selects RX5 yX5_reached yX5_reached, Cond.code yX5_reached cX5_reached 2 (some .int), Cond.methodLink RX5 110 yX1_numbersOf]
def wsL_law_r13 : List Cond := [Cond.instanceMethod yX1_numbersOf, Cond.selects RX1 yX1_numbersOf yX1_numbersOf, Cond.code yX1_numbersOf cX1_numbersOf 4 (some .int), Cond.methodLink RX1 89 yX1_has, Cond.instanceMethod yX1_has, Cond.selects RX1 yX1_has yX1_has, Cond.code yX1_has cX1_has 3 (some .boolean), Cond.methodLink RX1 86 yX1_reaches, Cond.instanceMethod yX1_reaches, Cond.selects RX1 yX1_reaches yX1_reaches, Cond.code yX1_reaches cX1_reaches 2 (some .boolean), Cond.methodLink RL 48 yX6_reached, Cond.instanceMethod yX6_reached, Cond.selects RX6 yX6_reached yX6_reached, Cond.code yX6_reached cX6_reached 4 (some .int), Cond.methodLink RX6 125 yX6_has, Cond.instanceMethod yX6_has, Cond.selects RX6 yX6_has yX6_has, Cond.code yX6_has cX6_has 3 (some .boolean), Cond.methodLink RX6 122 yX6_isReached, Cond.instanceMethod yX6_isReached, Cond.selects RX6 yX6_isReached yX6_isReached, Cond.code yX6_isReached cX6_isReached 2 (some .boolean), Cond.methodLink RL 49 yX5_value]
def wsL_law_r14 : List Cond := [Cond.instanceMethod yX5_value, Cond.selects RX5 yX5_value yX5_value, Cond.code yX5_value cX5_value 3 (some .int), Cond.methodLink RX5 113 yX1_numberAt, Cond.instanceMethod yX1_numberAt, Cond.selects RX1 yX1_numberAt yX1_numberAt, Cond.code yX1_numberAt cX1_numberAt 5 (some .int), Cond.methodLink RL 52 yX6_value, Cond.instanceMethod yX6_value, Cond.selects RX6 yX6_value yX6_value, Cond.code yX6_value cX6_value 5 (some .int), Cond.methodLink RL 53 yX5_missing, Cond.instanceMethod yX5_missing, Cond.selects RX5 yX5_missing yX5_missing, Cond.code yX5_missing cX5_missing 1 (some .int), Cond.methodLink RX5 117 yX1_leastNotReached, Cond.instanceMethod yX1_leastNotReached, Cond.selects RX1 yX1_leastNotReached yX1_leastNotReached, Cond.code yX1_leastNotReached cX1_leastNotReached 2 (some .int), Cond.methodLink RL 57 yX6_missing, Cond.instanceMethod yX6_missing, Cond.selects RX6 yX6_missing yX6_missing, Cond.code yX6_missing cX6_missing 2 (some .int), Cond.methodLink RL 58 yX5_aim]
def wsL_law_r15 : List Cond := [Cond.instanceMethod yX5_aim, Cond.selects RX5 yX5_aim yX5_aim, Cond.code yX5_aim cX5_aim 3 (some .int), Cond.methodLink RX5 121 yX1_reaches, Cond.methodLink RX5 124 yX1_firstSet, Cond.instanceMethod yX1_firstSet, Cond.selects RX1 yX1_firstSet yX1_firstSet, Cond.code yX1_firstSet cX1_firstSet 5 (some .int), Cond.methodLink RX1 93 yJ6_bitCount_0f7a4, Cond.static yJ6_bitCount_0f7a4, Cond.initialized RJ6, Cond.code yJ6_bitCount_0f7a4 cJ6_bitCount_0f7a4 1 (some .int), Cond.constant RJ6 265 (1431655765), Cond.constant RJ6 266 (858993459), Cond.constant RJ6 267 (252645135), Cond.methodLink RX5 127 yJ6_bitCount_0f7a4, Cond.methodLink RX5 132 yX1_nearest, Cond.instanceMethod yX1_nearest, Cond.selects RX1 yX1_nearest yX1_nearest, Cond.code yX1_nearest cX1_nearest 3 (some .int), Cond.methodLink RL 61 yX6_aim, Cond.instanceMethod yX6_aim, Cond.selects RX6 yX6_aim yX6_aim, Cond.code yX6_aim cX6_aim 4 (some .int)]
def wsL_law_r16 : List Cond := [Cond.constantLong RX6 129 (3), Cond.methodLink RX6 131 yX6_firstSet, Cond.instanceMethod yX6_firstSet, Cond.selects RX6 yX6_firstSet yX6_firstSet, Cond.code yX6_firstSet cX6_firstSet 4 (some .int), Cond.methodLink RX6 134 yX6_nearest, Cond.instanceMethod yX6_nearest, Cond.selects RX6 yX6_nearest yX6_nearest, Cond.code yX6_nearest cX6_nearest 6 (some .int), Cond.methodLink RL 62 yX5_print, Cond.instanceMethod yX5_print, Cond.selects RX5 yX5_print yX5_print, Cond.code yX5_print cX5_print 2 (some .int), Cond.methodLink RX5 135 yX5_printWay, Cond.instanceMethod yX5_printWay, Cond.selects RX5 yX5_printWay yX5_printWay, Cond.code yX5_printWay cX5_printWay 3 (some .int), Cond.methodLink RX5 168 yX5_writeFirstWay, Cond.static yX5_writeFirstWay, Cond.code yX5_writeFirstWay cX5_writeFirstWay 8 none, Cond.methodLink RX5 172 yX2_addNumber, Cond.instanceMethod yX2_addNumber, Cond.selects RX2 yX2_addNumber yX2_addNumber, Cond.code yX2_addNumber cX2_addNumber 3 none]
def wsL_law_r17 : List Cond := [Cond.methodLink RX2 19 yX2_add, Cond.instanceMethod yX2_add, Cond.selects RX2 yX2_add yX2_add, Cond.code yX2_add cX2_add 2 none, Cond.methodLink RX5 175 yX1_leastLeftNumber, Cond.instanceMethod yX1_leastLeftNumber, Cond.selects RX1 yX1_leastLeftNumber yX1_leastLeftNumber, Cond.code yX1_leastLeftNumber cX1_leastLeftNumber 11 (some .int), Cond.static yX5_rightNumber, Cond.code yX5_rightNumber cX5_rightNumber 3 (some .int), Cond.methodLink RX5 179 yX2_add, Cond.methodLink RX5 185 yJ0_charAt_5068e, Cond.instanceMethod yJ0_charAt_5068e, Cond.selects RJ0 yJ0_charAt_5068e yJ0_charAt_5068e, Cond.initialized RJ0, Cond.code yJ0_charAt_5068e cJ0_charAt_5068e 2 (some .char), Cond.fieldLink RJ0 9 "java/lang/String" "value" "[B", Cond.methodLink RJ0 492 yJ0_isLatin1_aae02, Cond.instanceMethod yJ0_isLatin1_aae02, Cond.selects RJ0 yJ0_isLatin1_aae02 yJ0_isLatin1_aae02, Cond.code yJ0_isLatin1_aae02 cJ0_isLatin1_aae02 1 (some .boolean), Cond.fieldLink RJ0 38 "java/lang/String" "COMPACT_STRINGS" "Z", Cond.fieldLink RJ0 15 "java/lang/String" "coder" "B", Cond.methodLink RJ0 495 yJ1_charAt_3b067]
def wsL_law_r18 : List Cond := [Cond.static yJ1_charAt_3b067, Cond.initialized RJ1, Cond.code yJ1_charAt_3b067 cJ1_charAt_3b067 2 (some .char), Cond.methodLink RJ1 9 yJ0_checkIndex_df160, Cond.static yJ0_checkIndex_df160, Cond.code yJ0_checkIndex_df160 cJ0_checkIndex_df160 2 none, Cond.fieldLink RJ0 1053 "jdk/internal/util/Preconditions" "SIOOBE_FORMATTER" "Ljava/util/function/BiFunction;", Cond.methodLink RJ0 1059 yJ3_checkIndex_8e157, Cond.static yJ3_checkIndex_8e157, Cond.initialized RJ3, Cond.code yJ3_checkIndex_8e157 cJ3_checkIndex_8e157 3 (some .int), Cond.methodLink RJ0 498 yJ2_charAt_3b067, Cond.static yJ2_charAt_3b067, Cond.initialized RJ2, Cond.code yJ2_charAt_3b067 cJ2_charAt_3b067 2 (some .char), Cond.methodLink RJ2 67 yJ2_checkIndex_2214a, Cond.static yJ2_checkIndex_2214a, Cond.code yJ2_checkIndex_2214a cJ2_checkIndex_2214a 2 none, Cond.methodLink RJ2 48 yJ2_length_9d52b, Cond.static yJ2_length_9d52b, Cond.code yJ2_length_9d52b cJ2_length_9d52b 1 (some .int), Cond.methodLink RJ2 414 yJ0_checkIndex_df160, Cond.methodLink RJ2 71 yJ2_getChar_3b067, Cond.static yJ2_getChar_3b067]
def wsL_law_r19 : List Cond := [Cond.code yJ2_getChar_3b067 cJ2_getChar_3b067 2 (some .char), Cond.fieldLink RJ2 44 "java/lang/StringUTF16" "$assertionsDisabled" "Z", Cond.fieldLink RJ2 59 "java/lang/StringUTF16" "HI_BYTE_SHIFT" "I", Cond.fieldLink RJ2 63 "java/lang/StringUTF16" "LO_BYTE_SHIFT" "I", Cond.methodLink RX5 191 yX5_rightNumber, Cond.methodLink RL 65 yX6_print, Cond.instanceMethod yX6_print, Cond.selects RX6 yX6_print yX6_print, Cond.code yX6_print cX6_print 3 (some .int), Cond.methodLink RX6 160 yX6_printed, Cond.instanceMethod yX6_printed, Cond.selects RX6 yX6_printed yX6_printed, Cond.code yX6_printed cX6_printed 5 (some .int), Cond.fieldLink RX6 137 "SixNumbersModel" "todos" "I", Cond.methodLink RX6 148 yX6_later, Cond.instanceMethod yX6_later, Cond.selects RX6 yX6_later yX6_later, Cond.code yX6_later cX6_later 3 none, Cond.methodLink RX6 140 yX6_put, Cond.instanceMethod yX6_put, Cond.selects RX6 yX6_put yX6_put, Cond.code yX6_put cX6_put 2 none, Cond.methodLink RX6 154 yX6_putNumber, Cond.instanceMethod yX6_putNumber]
def wsL_law_r20 : List Cond := [Cond.selects RX6 yX6_putNumber yX6_putNumber, Cond.code yX6_putNumber cX6_putNumber 2 none, Cond.methodLink RX6 157 yX6_part, Cond.instanceMethod yX6_part, Cond.selects RX6 yX6_part yX6_part, Cond.code yX6_part cX6_part 9 none, Cond.methodLink RX6 144 yX6_other, Cond.instanceMethod yX6_other, Cond.selects RX6 yX6_other yX6_other, Cond.code yX6_other cX6_other 4 (some .int), Cond.methodLink RX6 151 yX6_signOf, Cond.static yX6_signOf, Cond.code yX6_signOf cX6_signOf 1 (some .int), Cond.methodLink RL 66 yX5_printOf, Cond.instanceMethod yX5_printOf, Cond.selects RX5 yX5_printOf yX5_printOf, Cond.code yX5_printOf cX5_printOf 3 (some .int), Cond.methodLink RL 69 yX6_printOf, Cond.instanceMethod yX6_printOf, Cond.selects RX6 yX6_printOf yX6_printOf, Cond.code yX6_printOf cX6_printOf 3 (some .int), Cond.methodLink RL 70 yX5_out, Cond.instanceMethod yX5_out, Cond.selects RX5 yX5_out yX5_out]
def wsL_law_r21 : List Cond := [Cond.code yX5_out cX5_out 2 (some .int), Cond.methodLink RX5 138 yX2_byteAt, Cond.instanceMethod yX2_byteAt, Cond.selects RX2 yX2_byteAt yX2_byteAt, Cond.code yX2_byteAt cX2_byteAt 2 (some .int), Cond.methodLink RL 73 yX6_out, Cond.instanceMethod yX6_out, Cond.selects RX6 yX6_out yX6_out, Cond.code yX6_out cX6_out 2 (some .int), Cond.methodLink RL 74 yX5_card, Cond.instanceMethod yX5_card, Cond.selects RX5 yX5_card yX5_card, Cond.code yX5_card cX5_card 2 (some .int), Cond.methodLink RX5 141 yX0_put, Cond.instanceMethod yX0_put, Cond.selects RX0 yX0_put yX0_put, Cond.code yX0_put cX0_put 3 (some .int), Cond.methodLink RX0 34 yX0_forgetTallies, Cond.methodLink RL 77 yX6_card, Cond.instanceMethod yX6_card, Cond.selects RX6 yX6_card yX6_card, Cond.code yX6_card cX6_card 2 (some .int), Cond.methodLink RL 78 yX5_empty, Cond.instanceMethod yX5_empty]
def wsL_law_r22 : List Cond := [Cond.selects RX5 yX5_empty yX5_empty, Cond.code yX5_empty cX5_empty 1 (some .int), Cond.methodLink RX5 144 yX0_clear, Cond.instanceMethod yX0_clear, Cond.selects RX0 yX0_clear yX0_clear, Cond.code yX0_clear cX0_clear 2 (some .int), Cond.methodLink RL 81 yX6_empty, Cond.instanceMethod yX6_empty, Cond.selects RX6 yX6_empty yX6_empty, Cond.code yX6_empty cX6_empty 2 (some .int), Cond.methodLink RL 82 yX5_draws, Cond.instanceMethod yX5_draws, Cond.selects RX5 yX5_draws yX5_draws, Cond.code yX5_draws cX5_draws 7 (some .int), Cond.methodLink RX5 147 yX0_countDraws, Cond.instanceMethod yX0_countDraws, Cond.selects RX0 yX0_countDraws yX0_countDraws, Cond.code yX0_countDraws cX0_countDraws 3 none, Cond.methodLink RX0 37 yJ6_bitCount_0f7a4, Cond.methodLink RX0 43 yX0_countDraw, Cond.instanceMethod yX0_countDraw, Cond.selects RX0 yX0_countDraw yX0_countDraw, Cond.code yX0_countDraw cX0_countDraw 5 none, Cond.methodLink RX0 47 yX1_place]
def wsL_law_r23 : List Cond := [Cond.methodLink RX0 53 yX1_shorten, Cond.methodLink RX0 57 yX1_refresh, Cond.methodLink RX0 60 yX1_reaches, Cond.methodLink RX5 150 yX0_drawsOf, Cond.instanceMethod yX0_drawsOf, Cond.selects RX0 yX0_drawsOf yX0_drawsOf, Cond.code yX0_drawsOf cX0_drawsOf 2 (some .int), Cond.methodLink RX5 153 yX0_drawsReaching, Cond.instanceMethod yX0_drawsReaching, Cond.selects RX0 yX0_drawsReaching yX0_drawsReaching, Cond.code yX0_drawsReaching cX0_drawsReaching 3 (some .int), Cond.methodLink RX5 156 yX5_greatestCommonDivisor, Cond.static yX5_greatestCommonDivisor, Cond.code yX5_greatestCommonDivisor cX5_greatestCommonDivisor 4 (some .int), Cond.methodLink RX5 195 Lib.Math.min.name, Cond.methodLink RL 86 yX6_draws, Cond.instanceMethod yX6_draws, Cond.selects RX6 yX6_draws yX6_draws, Cond.code yX6_draws cX6_draws 7 (some .int), Cond.constantLong RX6 164 (4), Cond.methodLink RX6 166 yX6_drawn, Cond.instanceMethod yX6_drawn, Cond.selects RX6 yX6_drawn yX6_drawn, Cond.code yX6_drawn cX6_drawn 3 none]
def wsL_law_r24 : List Cond := [Cond.methodLink RX6 169 yX6_common, Cond.static yX6_common, Cond.code yX6_common cX6_common 5 (some .int), Cond.methodLink RL 87 yX5_most, Cond.instanceMethod yX5_most, Cond.selects RX5 yX5_most yX5_most, Cond.code yX5_most cX5_most 5 (some .int), Cond.methodLink RL 90 yX6_most, Cond.instanceMethod yX6_most, Cond.selects RX6 yX6_most yX6_most, Cond.code yX6_most cX6_most 5 (some .int), Cond.methodLink RL 91 yX5_span, Cond.instanceMethod yX5_span, Cond.selects RX5 yX5_span yX5_span, Cond.code yX5_span cX5_span 4 (some .int), Cond.methodLink RX5 159 yX5_firstSpan, Cond.instanceMethod yX5_firstSpan, Cond.selects RX5 yX5_firstSpan yX5_firstSpan, Cond.code yX5_firstSpan cX5_firstSpan 4 (some .int), Cond.methodLink RX5 200 yX5_spans, Cond.instanceMethod yX5_spans, Cond.selects RX5 yX5_spans yX5_spans, Cond.code yX5_spans cX5_spans 5 (some .boolean), Cond.methodLink RX5 204 yX5_isInSpan]
def wsL_law_r25 : List Cond := [Cond.static yX5_isInSpan, Cond.code yX5_isInSpan cX5_isInSpan 2 (some .boolean), Cond.methodLink RX5 162 yX5_spanNumber, Cond.static yX5_spanNumber, Cond.code yX5_spanNumber cX5_spanNumber 4 (some .int), Cond.methodLink RL 94 yX6_span, Cond.instanceMethod yX6_span, Cond.selects RX6 yX6_span yX6_span, Cond.code yX6_span cX6_span 7 (some .int), Cond.methodLink RX6 172 yX6_spans, Cond.instanceMethod yX6_spans, Cond.selects RX6 yX6_spans yX6_spans, Cond.code yX6_spans cX6_spans 4 (some .boolean), Cond.methodLink RL 95 yX5_signs, Cond.instanceMethod yX5_signs, Cond.selects RX5 yX5_signs yX5_signs, Cond.code yX5_signs cX5_signs 3 (some .int), Cond.methodLink RX5 165 yX4_stepsBetween, Cond.instanceMethod yX4_stepsBetween, Cond.selects RX4 yX4_stepsBetween yX4_stepsBetween, Cond.code yX4_stepsBetween cX4_stepsBetween 3 (some .int), Cond.methodLink RX4 29 yX4_walkFrom, Cond.instanceMethod yX4_walkFrom, Cond.selects RX4 yX4_walkFrom yX4_walkFrom]
def wsL_law_r26 : List Cond := [Cond.code yX4_walkFrom cX4_walkFrom 5 none, Cond.methodLink RX4 33 yX4_arrive, Cond.instanceMethod yX4_arrive, Cond.selects RX4 yX4_arrive yX4_arrive, Cond.code yX4_arrive cX4_arrive 3 none, Cond.methodLink RX4 37 yX4_signed, Cond.static yX4_signed, Cond.code yX4_signed cX4_signed 2 (some .int), Cond.methodLink RX4 41 yX4_rootOf, Cond.static yX4_rootOf, Cond.code yX4_rootOf cX4_rootOf 3 (some .int), Cond.methodLink RX4 45 yX4_productTo, Cond.static yX4_productTo, Cond.code yX4_productTo cX4_productTo 3 (some .int), Cond.methodLink RL 98 yX6_signs, Cond.instanceMethod yX6_signs, Cond.selects RX6 yX6_signs yX6_signs, Cond.code yX6_signs cX6_signs 8 (some .int), Cond.constantLong RX6 178 (5040), Cond.methodLink RX6 180 yX6_signed, Cond.static yX6_signed, Cond.code yX6_signed cX6_signed 4 (some .int), Cond.methodLink RX6 175 yX6_root, Cond.static yX6_root]
def wsL_law_r27 : List Cond := [Cond.code yX6_root cX6_root 2 (some .int)]
def wsL_law : List Cond := (wsL_law_r1 ++ (wsL_law_r2 ++ (wsL_law_r3 ++ (wsL_law_r4 ++ (wsL_law_r5 ++ (wsL_law_r6 ++ (wsL_law_r7 ++ (wsL_law_r8 ++ (wsL_law_r9 ++ (wsL_law_r10 ++ (wsL_law_r11 ++ (wsL_law_r12 ++ (wsL_law_r13 ++ (wsL_law_r14 ++ (wsL_law_r15 ++ (wsL_law_r16 ++ (wsL_law_r17 ++ (wsL_law_r18 ++ (wsL_law_r19 ++ (wsL_law_r20 ++ (wsL_law_r21 ++ (wsL_law_r22 ++ (wsL_law_r23 ++ (wsL_law_r24 ++ (wsL_law_r25 ++ (wsL_law_r26 ++ wsL_law_r27)))))))))))))))))))))))))) ++ wsX50 ++ wsX60 ++ wsX30 ++ wsX10 ++ wsX00 ++ wsX20 ++ wsX40 ++ ([] : List Cond)
theorem inlX0 : ∀ w ∈ wsX00, w ∈ wsL_law := fun _ h => List.mem_append_left _ (List.mem_append_left _ (List.mem_append_left _ (List.mem_append_right _ h)))
theorem inlX1 : ∀ w ∈ wsX10, w ∈ wsL_law := fun _ h => List.mem_append_left _ (List.mem_append_left _ (List.mem_append_left _ (List.mem_append_left _ (List.mem_append_right _ h))))
theorem inlX2 : ∀ w ∈ wsX20, w ∈ wsL_law := fun _ h => List.mem_append_left _ (List.mem_append_left _ (List.mem_append_right _ h))
theorem inlX3 : ∀ w ∈ wsX30, w ∈ wsL_law := fun _ h => List.mem_append_left _ (List.mem_append_left _ (List.mem_append_left _ (List.mem_append_left _ (List.mem_append_left _ (List.mem_append_right _ h)))))
theorem inlX4 : ∀ w ∈ wsX40, w ∈ wsL_law := fun _ h => List.mem_append_left _ (List.mem_append_right _ h)
theorem inlX5 : ∀ w ∈ wsX50, w ∈ wsL_law := fun _ h => List.mem_append_left _ (List.mem_append_left _ (List.mem_append_left _ (List.mem_append_left _ (List.mem_append_left _ (List.mem_append_left _ (List.mem_append_left _ (List.mem_append_right _ h)))))))
theorem inlX6 : ∀ w ∈ wsX60, w ∈ wsL_law := fun _ h => List.mem_append_left _ (List.mem_append_left _ (List.mem_append_left _ (List.mem_append_left _ (List.mem_append_left _ (List.mem_append_left _ (List.mem_append_right _ h))))))
abbrev vwCl : List vw_C := [(RX0, TX0, 6), (RX1, TX1, 8), (RX2, TX2, 2), (RX3, TX3, 2), (RX4, TX4, 4), (RX5, TX5, 6), (RX6, TX6, 20)]
end
section
theorem dX0_init_0 : decode cX0_init 0 = .ok (.aload_n 0, 1) := by decide +kernel
theorem dX0_init_1 : decode cX0_init 1 = .ok (.invokespecial 3, 3) := by decide +kernel
theorem dX0_init_4 : decode cX0_init 4 = .ok (.aload_n 0, 1) := by decide +kernel
theorem dX0_init_5 : decode cX0_init 5 = .ok (.bipush 10, 2) := by decide +kernel
theorem dX0_init_7 : decode cX0_init 7 = .ok (.newarray .int, 2) := by decide +kernel
theorem dX0_init_9 : decode cX0_init 9 = .ok (.putfield 9, 3) := by decide +kernel
theorem dX0_init_12 : decode cX0_init 12 = .ok (.aload_n 0, 1) := by decide +kernel
theorem dX0_init_13 : decode cX0_init 13 = .ok (.iconst 0, 1) := by decide +kernel
theorem dX0_init_14 : decode cX0_init 14 = .ok (.putfield 15, 3) := by decide +kernel
theorem dX0_init_17 : decode cX0_init 17 = .ok (.aload_n 0, 1) := by decide +kernel
theorem dX0_init_18 : decode cX0_init 18 = .ok (.iconst 5, 1) := by decide +kernel
theorem dX0_init_19 : decode cX0_init 19 = .ok (.sipush 3001, 3) := by decide +kernel
theorem dX0_init_22 : decode cX0_init 22 = .ok (.multianewarray 19 2, 4) := by decide +kernel
theorem dX0_init_26 : decode cX0_init 26 = .ok (.putfield 21, 3) := by decide +kernel
theorem dX0_init_29 : decode cX0_init 29 = .ok (.aload_n 0, 1) := by decide +kernel
theorem dX0_init_30 : decode cX0_init 30 = .ok (.iconst 5, 1) := by decide +kernel
theorem dX0_init_31 : decode cX0_init 31 = .ok (.newarray .int, 2) := by decide +kernel
theorem dX0_init_33 : decode cX0_init 33 = .ok (.putfield 24, 3) := by decide +kernel
theorem dX0_init_36 : decode cX0_init 36 = .ok (.aload_n 0, 1) := by decide +kernel
theorem dX0_init_37 : decode cX0_init 37 = .ok (.iconst 0, 1) := by decide +kernel
theorem dX0_init_38 : decode cX0_init 38 = .ok (.putfield 27, 3) := by decide +kernel
theorem dX0_init_41 : decode cX0_init 41 = .ok (.aload_n 0, 1) := by decide +kernel
theorem dX0_init_42 : decode cX0_init 42 = .ok (.aload_n 1, 1) := by decide +kernel
theorem dX0_init_43 : decode cX0_init 43 = .ok (.putfield 30, 3) := by decide +kernel
theorem dX0_init_46 : decode cX0_init 46 = .ok (.return_, 1) := by decide +kernel
theorem dX0_cardAt_0 : decode cX0_cardAt 0 = .ok (.iload_n 1, 1) := by decide +kernel
theorem dX0_cardAt_1 : decode cX0_cardAt 1 = .ok (.ifCond .lt 17, 3) := by decide +kernel
theorem dX0_cardAt_4 : decode cX0_cardAt 4 = .ok (.iload_n 1, 1) := by decide +kernel
theorem dX0_cardAt_5 : decode cX0_cardAt 5 = .ok (.aload_n 0, 1) := by decide +kernel
theorem dX0_cardAt_6 : decode cX0_cardAt 6 = .ok (.getfield 15, 3) := by decide +kernel
theorem dX0_cardAt_9 : decode cX0_cardAt 9 = .ok (.if_icmp .ge 9, 3) := by decide +kernel
theorem dX0_cardAt_12 : decode cX0_cardAt 12 = .ok (.iload_n 1, 1) := by decide +kernel
theorem dX0_cardAt_13 : decode cX0_cardAt 13 = .ok (.bipush 10, 2) := by decide +kernel
theorem dX0_cardAt_15 : decode cX0_cardAt 15 = .ok (.if_icmp .lt 7, 3) := by decide +kernel
theorem dX0_cardAt_18 : decode cX0_cardAt 18 = .ok (.iconst (-1), 1) := by decide +kernel
theorem dX0_cardAt_19 : decode cX0_cardAt 19 = .ok (.goto 9, 3) := by decide +kernel
theorem dX0_cardAt_22 : decode cX0_cardAt 22 = .ok (.aload_n 0, 1) := by decide +kernel
theorem dX0_cardAt_23 : decode cX0_cardAt 23 = .ok (.getfield 9, 3) := by decide +kernel
theorem dX0_cardAt_26 : decode cX0_cardAt 26 = .ok (.iload_n 1, 1) := by decide +kernel
theorem dX0_cardAt_27 : decode cX0_cardAt 27 = .ok (.iaload, 1) := by decide +kernel
theorem dX0_cardAt_28 : decode cX0_cardAt 28 = .ok (.ireturn, 1) := by decide +kernel
set_option maxRecDepth 20000 in
theorem ggX0_put_X0_forgetTallies : GoodIn wsX0_put wsX0_forgetTallies := goodIn_r _ [7, 8, 9, 10, 11, 12, 13, 14] (by decide +kernel) (by decide +kernel)
set_option maxRecDepth 20000 in
theorem gX0_put_X0_forgetTallies : GoodIn wsX0_put (wsV RX0 34 RX0 yX0_forgetTallies wsX0_forgetTallies) := goodIn_app (goodIn_of _ (by decide +kernel)) ggX0_put_X0_forgetTallies
theorem dX0_put_0 : decode cX0_put 0 = .ok (.aload_n 0, 1) := by decide +kernel
theorem dX0_put_1 : decode cX0_put 1 = .ok (.getfield 15, 3) := by decide +kernel
theorem dX0_put_4 : decode cX0_put 4 = .ok (.istore_n 2, 1) := by decide +kernel
theorem dX0_put_5 : decode cX0_put 5 = .ok (.iload_n 2, 1) := by decide +kernel
theorem dX0_put_6 : decode cX0_put 6 = .ok (.ifCond .lt 9, 3) := by decide +kernel
theorem dX0_put_9 : decode cX0_put 9 = .ok (.iload_n 2, 1) := by decide +kernel
theorem dX0_put_10 : decode cX0_put 10 = .ok (.bipush 10, 2) := by decide +kernel
theorem dX0_put_12 : decode cX0_put 12 = .ok (.if_icmp .lt 7, 3) := by decide +kernel
theorem dX0_put_15 : decode cX0_put 15 = .ok (.sipush (-1004), 3) := by decide +kernel
theorem dX0_put_18 : decode cX0_put 18 = .ok (.ireturn, 1) := by decide +kernel
theorem dX0_put_19 : decode cX0_put 19 = .ok (.aload_n 0, 1) := by decide +kernel
theorem dX0_put_20 : decode cX0_put 20 = .ok (.getfield 9, 3) := by decide +kernel
theorem dX0_put_23 : decode cX0_put 23 = .ok (.iload_n 2, 1) := by decide +kernel
theorem dX0_put_24 : decode cX0_put 24 = .ok (.iload_n 1, 1) := by decide +kernel
theorem dX0_put_25 : decode cX0_put 25 = .ok (.iastore, 1) := by decide +kernel
theorem dX0_put_26 : decode cX0_put 26 = .ok (.aload_n 0, 1) := by decide +kernel
theorem dX0_put_27 : decode cX0_put 27 = .ok (.dup, 1) := by decide +kernel
theorem dX0_put_28 : decode cX0_put 28 = .ok (.getfield 15, 3) := by decide +kernel
theorem dX0_put_31 : decode cX0_put 31 = .ok (.iconst 1, 1) := by decide +kernel
theorem dX0_put_32 : decode cX0_put 32 = .ok (.iadd, 1) := by decide +kernel
theorem dX0_put_33 : decode cX0_put 33 = .ok (.putfield 15, 3) := by decide +kernel
theorem dX0_put_36 : decode cX0_put 36 = .ok (.aload_n 0, 1) := by decide +kernel
theorem dX0_put_37 : decode cX0_put 37 = .ok (.invokevirtual 34, 3) := by decide +kernel
theorem dX0_put_40 : decode cX0_put 40 = .ok (.iload_n 2, 1) := by decide +kernel
theorem dX0_put_41 : decode cX0_put 41 = .ok (.ireturn, 1) := by decide +kernel
set_option maxRecDepth 20000 in
theorem ggX0_clear_X0_forgetTallies : GoodIn wsX0_clear wsX0_forgetTallies := goodIn_r _ [6, 7, 8, 9, 10, 11, 12, 13] (by decide +kernel) (by decide +kernel)
set_option maxRecDepth 20000 in
theorem gX0_clear_X0_forgetTallies : GoodIn wsX0_clear (wsV RX0 34 RX0 yX0_forgetTallies wsX0_forgetTallies) := goodIn_app (goodIn_of _ (by decide +kernel)) ggX0_clear_X0_forgetTallies
theorem dX0_clear_0 : decode cX0_clear 0 = .ok (.aload_n 0, 1) := by decide +kernel
theorem dX0_clear_1 : decode cX0_clear 1 = .ok (.getfield 15, 3) := by decide +kernel
theorem dX0_clear_4 : decode cX0_clear 4 = .ok (.istore_n 1, 1) := by decide +kernel
theorem dX0_clear_5 : decode cX0_clear 5 = .ok (.aload_n 0, 1) := by decide +kernel
theorem dX0_clear_6 : decode cX0_clear 6 = .ok (.iconst 0, 1) := by decide +kernel
theorem dX0_clear_7 : decode cX0_clear 7 = .ok (.putfield 15, 3) := by decide +kernel
theorem dX0_clear_10 : decode cX0_clear 10 = .ok (.aload_n 0, 1) := by decide +kernel
theorem dX0_clear_11 : decode cX0_clear 11 = .ok (.invokevirtual 34, 3) := by decide +kernel
theorem dX0_clear_14 : decode cX0_clear 14 = .ok (.iload_n 1, 1) := by decide +kernel
theorem dX0_clear_15 : decode cX0_clear 15 = .ok (.ireturn, 1) := by decide +kernel
theorem dX0_forgetTallies_0 : decode cX0_forgetTallies 0 = .ok (.aload_n 0, 1) := by decide +kernel
theorem dX0_forgetTallies_1 : decode cX0_forgetTallies 1 = .ok (.iconst 0, 1) := by decide +kernel
theorem dX0_forgetTallies_2 : decode cX0_forgetTallies 2 = .ok (.putfield 27, 3) := by decide +kernel
theorem dX0_forgetTallies_5 : decode cX0_forgetTallies 5 = .ok (.return_, 1) := by decide +kernel
theorem dX0_drawsOf_0 : decode cX0_drawsOf 0 = .ok (.iload_n 1, 1) := by decide +kernel
theorem dX0_drawsOf_1 : decode cX0_drawsOf 1 = .ok (.iconst 1, 1) := by decide +kernel
theorem dX0_drawsOf_2 : decode cX0_drawsOf 2 = .ok (.if_icmp .lt 8, 3) := by decide +kernel
theorem dX0_drawsOf_5 : decode cX0_drawsOf 5 = .ok (.iload_n 1, 1) := by decide +kernel
theorem dX0_drawsOf_6 : decode cX0_drawsOf 6 = .ok (.iconst 4, 1) := by decide +kernel
theorem dX0_drawsOf_7 : decode cX0_drawsOf 7 = .ok (.if_icmp .le 7, 3) := by decide +kernel
theorem dX0_drawsOf_10 : decode cX0_drawsOf 10 = .ok (.iconst 0, 1) := by decide +kernel
theorem dX0_drawsOf_11 : decode cX0_drawsOf 11 = .ok (.goto 9, 3) := by decide +kernel
theorem dX0_drawsOf_14 : decode cX0_drawsOf 14 = .ok (.aload_n 0, 1) := by decide +kernel
theorem dX0_drawsOf_15 : decode cX0_drawsOf 15 = .ok (.getfield 24, 3) := by decide +kernel
theorem dX0_drawsOf_18 : decode cX0_drawsOf 18 = .ok (.iload_n 1, 1) := by decide +kernel
theorem dX0_drawsOf_19 : decode cX0_drawsOf 19 = .ok (.iaload, 1) := by decide +kernel
theorem dX0_drawsOf_20 : decode cX0_drawsOf 20 = .ok (.ireturn, 1) := by decide +kernel
theorem dX0_drawsReaching_0 : decode cX0_drawsReaching 0 = .ok (.iload_n 1, 1) := by decide +kernel
theorem dX0_drawsReaching_1 : decode cX0_drawsReaching 1 = .ok (.iconst 1, 1) := by decide +kernel
theorem dX0_drawsReaching_2 : decode cX0_drawsReaching 2 = .ok (.if_icmp .lt 20, 3) := by decide +kernel
theorem dX0_drawsReaching_5 : decode cX0_drawsReaching 5 = .ok (.iload_n 1, 1) := by decide +kernel
theorem dX0_drawsReaching_6 : decode cX0_drawsReaching 6 = .ok (.iconst 4, 1) := by decide +kernel
theorem dX0_drawsReaching_7 : decode cX0_drawsReaching 7 = .ok (.if_icmp .gt 15, 3) := by decide +kernel
theorem dX0_drawsReaching_10 : decode cX0_drawsReaching 10 = .ok (.iload_n 2, 1) := by decide +kernel
theorem dX0_drawsReaching_11 : decode cX0_drawsReaching 11 = .ok (.iconst 1, 1) := by decide +kernel
theorem dX0_drawsReaching_12 : decode cX0_drawsReaching 12 = .ok (.if_icmp .lt 10, 3) := by decide +kernel
theorem dX0_drawsReaching_15 : decode cX0_drawsReaching 15 = .ok (.iload_n 2, 1) := by decide +kernel
theorem dX0_drawsReaching_16 : decode cX0_drawsReaching 16 = .ok (.sipush 3000, 3) := by decide +kernel
theorem dX0_drawsReaching_19 : decode cX0_drawsReaching 19 = .ok (.if_icmp .le 5, 3) := by decide +kernel
theorem dX0_drawsReaching_22 : decode cX0_drawsReaching 22 = .ok (.iconst 0, 1) := by decide +kernel
theorem dX0_drawsReaching_23 : decode cX0_drawsReaching 23 = .ok (.ireturn, 1) := by decide +kernel
theorem dX0_drawsReaching_24 : decode cX0_drawsReaching 24 = .ok (.aload_n 0, 1) := by decide +kernel
theorem dX0_drawsReaching_25 : decode cX0_drawsReaching 25 = .ok (.getfield 21, 3) := by decide +kernel
theorem dX0_drawsReaching_28 : decode cX0_drawsReaching 28 = .ok (.iload_n 1, 1) := by decide +kernel
theorem dX0_drawsReaching_29 : decode cX0_drawsReaching 29 = .ok (.aaload, 1) := by decide +kernel
theorem dX0_drawsReaching_30 : decode cX0_drawsReaching 30 = .ok (.iload_n 2, 1) := by decide +kernel
theorem dX0_drawsReaching_31 : decode cX0_drawsReaching 31 = .ok (.iaload, 1) := by decide +kernel
theorem dX0_drawsReaching_32 : decode cX0_drawsReaching 32 = .ok (.ireturn, 1) := by decide +kernel
set_option maxRecDepth 20000 in
theorem ggX0_countDraws_J6_bitCount_0f7a4 : GoodIn wsX0_countDraws wsJ6_bitCount_0f7a4 := goodIn_r _ [8, 9, 10, 11] (by decide +kernel) (by decide +kernel)
set_option maxRecDepth 20000 in
theorem gX0_countDraws_J6_bitCount_0f7a4 : GoodIn wsX0_countDraws (va_wsS RX0 37 yJ6_bitCount_0f7a4 wsJ6_bitCount_0f7a4) := goodIn_app (goodIn_of _ (by decide +kernel)) ggX0_countDraws_J6_bitCount_0f7a4
set_option maxRecDepth 20000 in
theorem ggX0_countDraws_X0_countDraw : GoodIn wsX0_countDraws wsX0_countDraw := goodIn_r _ [16, 4, 17, 18, 19, 20, 21, 22, 23, 24, 25, 26, 27, 28, 29, 30, 31, 32, 33, 34, 35, 36, 37, 38, 39, 40, 41, 42, 43, 44, 45, 46, 47, 48, 49, 50, 51, 52, 53, 54, 55, 56, 57, 58, 59, 60, 61, 62, 63, 64, 65, 66, 67, 68, 69, 70, 71, 72, 73, 74, 75, 76, 77, 78, 79, 80, 81, 82, 83, 84, 85, 86, 87, 88, 89, 90, 91, 92, 93, 94, 95] (by decide +kernel) (by decide +kernel)
set_option maxRecDepth 20000 in
theorem gX0_countDraws_X0_countDraw : GoodIn wsX0_countDraws (wsV RX0 43 RX0 yX0_countDraw wsX0_countDraw) := goodIn_app (goodIn_of _ (by decide +kernel)) ggX0_countDraws_X0_countDraw
theorem dX0_countDraws_0 : decode cX0_countDraws 0 = .ok (.iload_n 1, 1) := by decide +kernel
theorem dX0_countDraws_1 : decode cX0_countDraws 1 = .ok (.iconst 1, 1) := by decide +kernel
theorem dX0_countDraws_2 : decode cX0_countDraws 2 = .ok (.if_icmp .lt 19, 3) := by decide +kernel
theorem dX0_countDraws_5 : decode cX0_countDraws 5 = .ok (.iload_n 1, 1) := by decide +kernel
theorem dX0_countDraws_6 : decode cX0_countDraws 6 = .ok (.iconst 4, 1) := by decide +kernel
theorem dX0_countDraws_7 : decode cX0_countDraws 7 = .ok (.if_icmp .gt 14, 3) := by decide +kernel
theorem dX0_countDraws_10 : decode cX0_countDraws 10 = .ok (.aload_n 0, 1) := by decide +kernel
theorem dX0_countDraws_11 : decode cX0_countDraws 11 = .ok (.getfield 27, 3) := by decide +kernel
theorem dX0_countDraws_14 : decode cX0_countDraws 14 = .ok (.iconst 1, 1) := by decide +kernel
theorem dX0_countDraws_15 : decode cX0_countDraws 15 = .ok (.iload_n 1, 1) := by decide +kernel
theorem dX0_countDraws_16 : decode cX0_countDraws 16 = .ok (.ishl, 1) := by decide +kernel
theorem dX0_countDraws_17 : decode cX0_countDraws 17 = .ok (.iand, 1) := by decide +kernel
theorem dX0_countDraws_18 : decode cX0_countDraws 18 = .ok (.ifCond .eq 4, 3) := by decide +kernel
theorem dX0_countDraws_21 : decode cX0_countDraws 21 = .ok (.return_, 1) := by decide +kernel
theorem dX0_countDraws_22 : decode cX0_countDraws 22 = .ok (.aload_n 0, 1) := by decide +kernel
theorem dX0_countDraws_23 : decode cX0_countDraws 23 = .ok (.dup, 1) := by decide +kernel
theorem dX0_countDraws_24 : decode cX0_countDraws 24 = .ok (.getfield 27, 3) := by decide +kernel
theorem dX0_countDraws_27 : decode cX0_countDraws 27 = .ok (.iconst 1, 1) := by decide +kernel
theorem dX0_countDraws_28 : decode cX0_countDraws 28 = .ok (.iload_n 1, 1) := by decide +kernel
theorem dX0_countDraws_29 : decode cX0_countDraws 29 = .ok (.ishl, 1) := by decide +kernel
theorem dX0_countDraws_30 : decode cX0_countDraws 30 = .ok (.ior, 1) := by decide +kernel
theorem dX0_countDraws_31 : decode cX0_countDraws 31 = .ok (.putfield 27, 3) := by decide +kernel
theorem dX0_countDraws_34 : decode cX0_countDraws 34 = .ok (.aload_n 0, 1) := by decide +kernel
theorem dX0_countDraws_35 : decode cX0_countDraws 35 = .ok (.getfield 24, 3) := by decide +kernel
theorem dX0_countDraws_38 : decode cX0_countDraws 38 = .ok (.iload_n 1, 1) := by decide +kernel
theorem dX0_countDraws_39 : decode cX0_countDraws 39 = .ok (.iconst 0, 1) := by decide +kernel
theorem dX0_countDraws_40 : decode cX0_countDraws 40 = .ok (.iastore, 1) := by decide +kernel
theorem dX0_countDraws_41 : decode cX0_countDraws 41 = .ok (.iconst 1, 1) := by decide +kernel
theorem dX0_countDraws_42 : decode cX0_countDraws 42 = .ok (.istore_n 2, 1) := by decide +kernel
theorem dX0_countDraws_43 : decode cX0_countDraws 43 = .ok (.iload_n 2, 1) := by decide +kernel
theorem dX0_countDraws_44 : decode cX0_countDraws 44 = .ok (.sipush 3000, 3) := by decide +kernel
theorem dX0_countDraws_47 : decode cX0_countDraws 47 = .ok (.if_icmp .gt 18, 3) := by decide +kernel
theorem dX0_countDraws_50 : decode cX0_countDraws 50 = .ok (.aload_n 0, 1) := by decide +kernel
theorem dX0_countDraws_51 : decode cX0_countDraws 51 = .ok (.getfield 21, 3) := by decide +kernel
theorem dX0_countDraws_54 : decode cX0_countDraws 54 = .ok (.iload_n 1, 1) := by decide +kernel
theorem dX0_countDraws_55 : decode cX0_countDraws 55 = .ok (.aaload, 1) := by decide +kernel
theorem dX0_countDraws_56 : decode cX0_countDraws 56 = .ok (.iload_n 2, 1) := by decide +kernel
theorem dX0_countDraws_57 : decode cX0_countDraws 57 = .ok (.iconst 0, 1) := by decide +kernel
theorem dX0_countDraws_58 : decode cX0_countDraws 58 = .ok (.iastore, 1) := by decide +kernel
theorem dX0_countDraws_59 : decode cX0_countDraws 59 = .ok (.iinc 2 1, 3) := by decide +kernel
theorem dX0_countDraws_62 : decode cX0_countDraws 62 = .ok (.goto (-19), 3) := by decide +kernel
theorem dX0_countDraws_65 : decode cX0_countDraws 65 = .ok (.iconst 1, 1) := by decide +kernel
theorem dX0_countDraws_66 : decode cX0_countDraws 66 = .ok (.istore_n 2, 1) := by decide +kernel
theorem dX0_countDraws_67 : decode cX0_countDraws 67 = .ok (.iload_n 2, 1) := by decide +kernel
theorem dX0_countDraws_68 : decode cX0_countDraws 68 = .ok (.iconst 1, 1) := by decide +kernel
theorem dX0_countDraws_69 : decode cX0_countDraws 69 = .ok (.aload_n 0, 1) := by decide +kernel
theorem dX0_countDraws_70 : decode cX0_countDraws 70 = .ok (.getfield 15, 3) := by decide +kernel
theorem dX0_countDraws_73 : decode cX0_countDraws 73 = .ok (.ishl, 1) := by decide +kernel
theorem dX0_countDraws_74 : decode cX0_countDraws 74 = .ok (.if_icmp .ge 38, 3) := by decide +kernel
theorem dX0_countDraws_77 : decode cX0_countDraws 77 = .ok (.iload_n 2, 1) := by decide +kernel
theorem dX0_countDraws_78 : decode cX0_countDraws 78 = .ok (.invokestatic 37, 3) := by decide +kernel
theorem dX0_countDraws_81 : decode cX0_countDraws 81 = .ok (.iload_n 1, 1) := by decide +kernel
theorem dX0_countDraws_82 : decode cX0_countDraws 82 = .ok (.if_icmp .ne 24, 3) := by decide +kernel
theorem dX0_countDraws_85 : decode cX0_countDraws 85 = .ok (.aload_n 0, 1) := by decide +kernel
theorem dX0_countDraws_86 : decode cX0_countDraws 86 = .ok (.getfield 24, 3) := by decide +kernel
theorem dX0_countDraws_89 : decode cX0_countDraws 89 = .ok (.iload_n 1, 1) := by decide +kernel
theorem dX0_countDraws_90 : decode cX0_countDraws 90 = .ok (.dup2, 1) := by decide +kernel
theorem dX0_countDraws_91 : decode cX0_countDraws 91 = .ok (.iaload, 1) := by decide +kernel
theorem dX0_countDraws_92 : decode cX0_countDraws 92 = .ok (.iconst 1, 1) := by decide +kernel
theorem dX0_countDraws_93 : decode cX0_countDraws 93 = .ok (.iadd, 1) := by decide +kernel
theorem dX0_countDraws_94 : decode cX0_countDraws 94 = .ok (.iastore, 1) := by decide +kernel
theorem dX0_countDraws_95 : decode cX0_countDraws 95 = .ok (.aload_n 0, 1) := by decide +kernel
theorem dX0_countDraws_96 : decode cX0_countDraws 96 = .ok (.iload_n 2, 1) := by decide +kernel
theorem dX0_countDraws_97 : decode cX0_countDraws 97 = .ok (.aload_n 0, 1) := by decide +kernel
theorem dX0_countDraws_98 : decode cX0_countDraws 98 = .ok (.getfield 21, 3) := by decide +kernel
theorem dX0_countDraws_101 : decode cX0_countDraws 101 = .ok (.iload_n 1, 1) := by decide +kernel
theorem dX0_countDraws_102 : decode cX0_countDraws 102 = .ok (.aaload, 1) := by decide +kernel
theorem dX0_countDraws_103 : decode cX0_countDraws 103 = .ok (.invokevirtual 43, 3) := by decide +kernel
theorem dX0_countDraws_106 : decode cX0_countDraws 106 = .ok (.iinc 2 1, 3) := by decide +kernel
theorem dX0_countDraws_109 : decode cX0_countDraws 109 = .ok (.goto (-42), 3) := by decide +kernel
theorem dX0_countDraws_112 : decode cX0_countDraws 112 = .ok (.return_, 1) := by decide +kernel
set_option maxRecDepth 20000 in
theorem ggX0_countDraw_X1_place : GoodIn wsX0_countDraw wsX1_place := goodIn_r _ [8, 9, 10, 11, 12, 13, 14, 15, 71, 72, 73, 74, 75, 76, 77, 78] (by decide +kernel) (by decide +kernel)
set_option maxRecDepth 20000 in
theorem gX0_countDraw_X1_place : GoodIn wsX0_countDraw (wsV RX0 47 RX1 yX1_place wsX1_place) := goodIn_app (goodIn_of _ (by decide +kernel)) ggX0_countDraw_X1_place
set_option maxRecDepth 20000 in
theorem ggX0_countDraw_X1_shorten : GoodIn wsX0_countDraw wsX1_shorten := goodIn_r _ [19, 9, 15, 20, 21, 13, 22, 71, 72, 73, 74, 75, 76, 77, 78] (by decide +kernel) (by decide +kernel)
set_option maxRecDepth 20000 in
theorem gX0_countDraw_X1_shorten : GoodIn wsX0_countDraw (wsV RX0 53 RX1 yX1_shorten wsX1_shorten) := goodIn_app (goodIn_of _ (by decide +kernel)) ggX0_countDraw_X1_shorten
set_option maxRecDepth 20000 in
theorem ggX0_countDraw_X1_refresh : GoodIn wsX0_countDraw wsX1_refresh := goodIn_r _ [26, 15, 27, 28, 29, 30, 7, 31, 32, 33, 34, 35, 36, 37, 38, 9, 39, 40, 41, 42, 10, 43, 44, 45, 46, 47, 48, 49, 50, 51, 52, 53, 13, 54, 55, 56, 57, 58, 59, 60, 71, 72, 73, 74, 75, 76, 77, 78, 79, 80] (by decide +kernel) (by decide +kernel)
set_option maxRecDepth 20000 in
theorem gX0_countDraw_X1_refresh : GoodIn wsX0_countDraw (wsV RX0 57 RX1 yX1_refresh wsX1_refresh) := goodIn_app (goodIn_of _ (by decide +kernel)) ggX0_countDraw_X1_refresh
set_option maxRecDepth 20000 in
theorem ggX0_countDraw_X1_reaches : GoodIn wsX0_countDraw wsX1_reaches := goodIn_r _ [64, 34, 71, 72, 73, 74, 75, 76, 77, 78] (by decide +kernel) (by decide +kernel)
set_option maxRecDepth 20000 in
theorem gX0_countDraw_X1_reaches : GoodIn wsX0_countDraw (wsV RX0 60 RX1 yX1_reaches wsX1_reaches) := goodIn_app (goodIn_of _ (by decide +kernel)) ggX0_countDraw_X1_reaches
theorem dX0_countDraw_0 : decode cX0_countDraw 0 = .ok (.iconst 0, 1) := by decide +kernel
theorem dX0_countDraw_1 : decode cX0_countDraw 1 = .ok (.istore_n 3, 1) := by decide +kernel
theorem dX0_countDraw_2 : decode cX0_countDraw 2 = .ok (.iconst 0, 1) := by decide +kernel
theorem dX0_countDraw_3 : decode cX0_countDraw 3 = .ok (.istore 4, 2) := by decide +kernel
theorem dX0_countDraw_5 : decode cX0_countDraw 5 = .ok (.iload 4, 2) := by decide +kernel
theorem dX0_countDraw_7 : decode cX0_countDraw 7 = .ok (.aload_n 0, 1) := by decide +kernel
theorem dX0_countDraw_8 : decode cX0_countDraw 8 = .ok (.getfield 15, 3) := by decide +kernel
theorem dX0_countDraw_11 : decode cX0_countDraw 11 = .ok (.if_icmp .ge 43, 3) := by decide +kernel
theorem dX0_countDraw_14 : decode cX0_countDraw 14 = .ok (.iload 4, 2) := by decide +kernel
theorem dX0_countDraw_16 : decode cX0_countDraw 16 = .ok (.bipush 10, 2) := by decide +kernel
theorem dX0_countDraw_18 : decode cX0_countDraw 18 = .ok (.if_icmp .ge 36, 3) := by decide +kernel
theorem dX0_countDraw_21 : decode cX0_countDraw 21 = .ok (.iload_n 1, 1) := by decide +kernel
theorem dX0_countDraw_22 : decode cX0_countDraw 22 = .ok (.iconst 1, 1) := by decide +kernel
theorem dX0_countDraw_23 : decode cX0_countDraw 23 = .ok (.iload 4, 2) := by decide +kernel
theorem dX0_countDraw_25 : decode cX0_countDraw 25 = .ok (.ishl, 1) := by decide +kernel
theorem dX0_countDraw_26 : decode cX0_countDraw 26 = .ok (.iand, 1) := by decide +kernel
theorem dX0_countDraw_27 : decode cX0_countDraw 27 = .ok (.ifCond .eq 21, 3) := by decide +kernel
theorem dX0_countDraw_30 : decode cX0_countDraw 30 = .ok (.aload_n 0, 1) := by decide +kernel
theorem dX0_countDraw_31 : decode cX0_countDraw 31 = .ok (.getfield 30, 3) := by decide +kernel
theorem dX0_countDraw_34 : decode cX0_countDraw 34 = .ok (.iload_n 3, 1) := by decide +kernel
theorem dX0_countDraw_35 : decode cX0_countDraw 35 = .ok (.aload_n 0, 1) := by decide +kernel
theorem dX0_countDraw_36 : decode cX0_countDraw 36 = .ok (.getfield 9, 3) := by decide +kernel
theorem dX0_countDraw_39 : decode cX0_countDraw 39 = .ok (.iload 4, 2) := by decide +kernel
theorem dX0_countDraw_41 : decode cX0_countDraw 41 = .ok (.iaload, 1) := by decide +kernel
theorem dX0_countDraw_42 : decode cX0_countDraw 42 = .ok (.invokevirtual 47, 3) := by decide +kernel
theorem dX0_countDraw_45 : decode cX0_countDraw 45 = .ok (.iinc 3 1, 3) := by decide +kernel
theorem dX0_countDraw_48 : decode cX0_countDraw 48 = .ok (.iinc 4 1, 3) := by decide +kernel
theorem dX0_countDraw_51 : decode cX0_countDraw 51 = .ok (.goto (-46), 3) := by decide +kernel
theorem dX0_countDraw_54 : decode cX0_countDraw 54 = .ok (.aload_n 0, 1) := by decide +kernel
theorem dX0_countDraw_55 : decode cX0_countDraw 55 = .ok (.getfield 30, 3) := by decide +kernel
theorem dX0_countDraw_58 : decode cX0_countDraw 58 = .ok (.iload_n 3, 1) := by decide +kernel
theorem dX0_countDraw_59 : decode cX0_countDraw 59 = .ok (.invokevirtual 53, 3) := by decide +kernel
theorem dX0_countDraw_62 : decode cX0_countDraw 62 = .ok (.aload_n 0, 1) := by decide +kernel
theorem dX0_countDraw_63 : decode cX0_countDraw 63 = .ok (.getfield 30, 3) := by decide +kernel
theorem dX0_countDraw_66 : decode cX0_countDraw 66 = .ok (.invokevirtual 57, 3) := by decide +kernel
theorem dX0_countDraw_69 : decode cX0_countDraw 69 = .ok (.iconst 1, 1) := by decide +kernel
theorem dX0_countDraw_70 : decode cX0_countDraw 70 = .ok (.istore 4, 2) := by decide +kernel
theorem dX0_countDraw_72 : decode cX0_countDraw 72 = .ok (.iload 4, 2) := by decide +kernel
theorem dX0_countDraw_74 : decode cX0_countDraw 74 = .ok (.sipush 3000, 3) := by decide +kernel
theorem dX0_countDraw_77 : decode cX0_countDraw 77 = .ok (.if_icmp .gt 36, 3) := by decide +kernel
theorem dX0_countDraw_80 : decode cX0_countDraw 80 = .ok (.iload 4, 2) := by decide +kernel
theorem dX0_countDraw_82 : decode cX0_countDraw 82 = .ok (.aload_n 2, 1) := by decide +kernel
theorem dX0_countDraw_83 : decode cX0_countDraw 83 = .ok (.arraylength, 1) := by decide +kernel
theorem dX0_countDraw_84 : decode cX0_countDraw 84 = .ok (.if_icmp .ge 29, 3) := by decide +kernel
theorem dX0_countDraw_87 : decode cX0_countDraw 87 = .ok (.aload_n 0, 1) := by decide +kernel
theorem dX0_countDraw_88 : decode cX0_countDraw 88 = .ok (.getfield 30, 3) := by decide +kernel
theorem dX0_countDraw_91 : decode cX0_countDraw 91 = .ok (.iload 4, 2) := by decide +kernel
theorem dX0_countDraw_93 : decode cX0_countDraw 93 = .ok (.invokevirtual 60, 3) := by decide +kernel
theorem dX0_countDraw_96 : decode cX0_countDraw 96 = .ok (.ifCond .eq 11, 3) := by decide +kernel
theorem dX0_countDraw_99 : decode cX0_countDraw 99 = .ok (.aload_n 2, 1) := by decide +kernel
theorem dX0_countDraw_100 : decode cX0_countDraw 100 = .ok (.iload 4, 2) := by decide +kernel
theorem dX0_countDraw_102 : decode cX0_countDraw 102 = .ok (.dup2, 1) := by decide +kernel
theorem dX0_countDraw_103 : decode cX0_countDraw 103 = .ok (.iaload, 1) := by decide +kernel
theorem dX0_countDraw_104 : decode cX0_countDraw 104 = .ok (.iconst 1, 1) := by decide +kernel
theorem dX0_countDraw_105 : decode cX0_countDraw 105 = .ok (.iadd, 1) := by decide +kernel
theorem dX0_countDraw_106 : decode cX0_countDraw 106 = .ok (.iastore, 1) := by decide +kernel
theorem dX0_countDraw_107 : decode cX0_countDraw 107 = .ok (.iinc 4 1, 3) := by decide +kernel
theorem dX0_countDraw_110 : decode cX0_countDraw 110 = .ok (.goto (-38), 3) := by decide +kernel
theorem dX0_countDraw_113 : decode cX0_countDraw 113 = .ok (.return_, 1) := by decide +kernel
theorem dX1_init_0 : decode cX1_init 0 = .ok (.aload_n 0, 1) := by decide +kernel
theorem dX1_init_1 : decode cX1_init 1 = .ok (.invokespecial 3, 3) := by decide +kernel
theorem dX1_init_4 : decode cX1_init 4 = .ok (.aload_n 0, 1) := by decide +kernel
theorem dX1_init_5 : decode cX1_init 5 = .ok (.iconst 0, 1) := by decide +kernel
theorem dX1_init_6 : decode cX1_init 6 = .ok (.putfield 9, 3) := by decide +kernel
theorem dX1_init_9 : decode cX1_init 9 = .ok (.aload_n 0, 1) := by decide +kernel
theorem dX1_init_10 : decode cX1_init 10 = .ok (.iconst 0, 1) := by decide +kernel
theorem dX1_init_11 : decode cX1_init 11 = .ok (.putfield 15, 3) := by decide +kernel
theorem dX1_init_14 : decode cX1_init 14 = .ok (.aload_n 0, 1) := by decide +kernel
theorem dX1_init_15 : decode cX1_init 15 = .ok (.aload_n 1, 1) := by decide +kernel
theorem dX1_init_16 : decode cX1_init 16 = .ok (.putfield 18, 3) := by decide +kernel
theorem dX1_init_19 : decode cX1_init 19 = .ok (.aload_n 0, 1) := by decide +kernel
theorem dX1_init_20 : decode cX1_init 20 = .ok (.iload_n 2, 1) := by decide +kernel
theorem dX1_init_21 : decode cX1_init 21 = .ok (.newarray .int, 2) := by decide +kernel
theorem dX1_init_23 : decode cX1_init 23 = .ok (.putfield 22, 3) := by decide +kernel
theorem dX1_init_26 : decode cX1_init 26 = .ok (.aload_n 0, 1) := by decide +kernel
theorem dX1_init_27 : decode cX1_init 27 = .ok (.iconst 1, 1) := by decide +kernel
theorem dX1_init_28 : decode cX1_init 28 = .ok (.iload_n 2, 1) := by decide +kernel
theorem dX1_init_29 : decode cX1_init 29 = .ok (.ishl, 1) := by decide +kernel
theorem dX1_init_30 : decode cX1_init 30 = .ok (.sipush 3001, 3) := by decide +kernel
theorem dX1_init_33 : decode cX1_init 33 = .ok (.multianewarray 26 2, 4) := by decide +kernel
theorem dX1_init_37 : decode cX1_init 37 = .ok (.putfield 28, 3) := by decide +kernel
theorem dX1_init_40 : decode cX1_init 40 = .ok (.aload_n 0, 1) := by decide +kernel
theorem dX1_init_41 : decode cX1_init 41 = .ok (.iconst 1, 1) := by decide +kernel
theorem dX1_init_42 : decode cX1_init 42 = .ok (.iload_n 2, 1) := by decide +kernel
theorem dX1_init_43 : decode cX1_init 43 = .ok (.ishl, 1) := by decide +kernel
theorem dX1_init_44 : decode cX1_init 44 = .ok (.sipush 3000, 3) := by decide +kernel
theorem dX1_init_47 : decode cX1_init 47 = .ok (.multianewarray 31 2, 4) := by decide +kernel
theorem dX1_init_51 : decode cX1_init 51 = .ok (.putfield 33, 3) := by decide +kernel
theorem dX1_init_54 : decode cX1_init 54 = .ok (.aload_n 0, 1) := by decide +kernel
theorem dX1_init_55 : decode cX1_init 55 = .ok (.iconst 1, 1) := by decide +kernel
theorem dX1_init_56 : decode cX1_init 56 = .ok (.iload_n 2, 1) := by decide +kernel
theorem dX1_init_57 : decode cX1_init 57 = .ok (.ishl, 1) := by decide +kernel
theorem dX1_init_58 : decode cX1_init 58 = .ok (.newarray .int, 2) := by decide +kernel
theorem dX1_init_60 : decode cX1_init 60 = .ok (.putfield 36, 3) := by decide +kernel
theorem dX1_init_63 : decode cX1_init 63 = .ok (.aload_n 0, 1) := by decide +kernel
theorem dX1_init_64 : decode cX1_init 64 = .ok (.sipush 3001, 3) := by decide +kernel
theorem dX1_init_67 : decode cX1_init 67 = .ok (.newarray .int, 2) := by decide +kernel
theorem dX1_init_69 : decode cX1_init 69 = .ok (.putfield 39, 3) := by decide +kernel
theorem dX1_init_72 : decode cX1_init 72 = .ok (.return_, 1) := by decide +kernel
theorem dX1_itemAt_0 : decode cX1_itemAt 0 = .ok (.iload_n 1, 1) := by decide +kernel
theorem dX1_itemAt_1 : decode cX1_itemAt 1 = .ok (.ifCond .lt 20, 3) := by decide +kernel
theorem dX1_itemAt_4 : decode cX1_itemAt 4 = .ok (.iload_n 1, 1) := by decide +kernel
theorem dX1_itemAt_5 : decode cX1_itemAt 5 = .ok (.aload_n 0, 1) := by decide +kernel
theorem dX1_itemAt_6 : decode cX1_itemAt 6 = .ok (.getfield 9, 3) := by decide +kernel
theorem dX1_itemAt_9 : decode cX1_itemAt 9 = .ok (.if_icmp .ge 12, 3) := by decide +kernel
theorem dX1_itemAt_12 : decode cX1_itemAt 12 = .ok (.iload_n 1, 1) := by decide +kernel
theorem dX1_itemAt_13 : decode cX1_itemAt 13 = .ok (.aload_n 0, 1) := by decide +kernel
theorem dX1_itemAt_14 : decode cX1_itemAt 14 = .ok (.getfield 22, 3) := by decide +kernel
theorem dX1_itemAt_17 : decode cX1_itemAt 17 = .ok (.arraylength, 1) := by decide +kernel
theorem dX1_itemAt_18 : decode cX1_itemAt 18 = .ok (.if_icmp .lt 7, 3) := by decide +kernel
theorem dX1_itemAt_21 : decode cX1_itemAt 21 = .ok (.iconst (-1), 1) := by decide +kernel
theorem dX1_itemAt_22 : decode cX1_itemAt 22 = .ok (.goto 9, 3) := by decide +kernel
theorem dX1_itemAt_25 : decode cX1_itemAt 25 = .ok (.aload_n 0, 1) := by decide +kernel
theorem dX1_itemAt_26 : decode cX1_itemAt 26 = .ok (.getfield 22, 3) := by decide +kernel
theorem dX1_itemAt_29 : decode cX1_itemAt 29 = .ok (.iload_n 1, 1) := by decide +kernel
theorem dX1_itemAt_30 : decode cX1_itemAt 30 = .ok (.iaload, 1) := by decide +kernel
theorem dX1_itemAt_31 : decode cX1_itemAt 31 = .ok (.ireturn, 1) := by decide +kernel
theorem dX1_place_0 : decode cX1_place 0 = .ok (.iload_n 1, 1) := by decide +kernel
theorem dX1_place_1 : decode cX1_place 1 = .ok (.ifCond .lt 20, 3) := by decide +kernel
theorem dX1_place_4 : decode cX1_place 4 = .ok (.iload_n 1, 1) := by decide +kernel
theorem dX1_place_5 : decode cX1_place 5 = .ok (.aload_n 0, 1) := by decide +kernel
theorem dX1_place_6 : decode cX1_place 6 = .ok (.getfield 9, 3) := by decide +kernel
theorem dX1_place_9 : decode cX1_place 9 = .ok (.if_icmp .gt 12, 3) := by decide +kernel
theorem dX1_place_12 : decode cX1_place 12 = .ok (.iload_n 1, 1) := by decide +kernel
theorem dX1_place_13 : decode cX1_place 13 = .ok (.aload_n 0, 1) := by decide +kernel
theorem dX1_place_14 : decode cX1_place 14 = .ok (.getfield 22, 3) := by decide +kernel
theorem dX1_place_17 : decode cX1_place 17 = .ok (.arraylength, 1) := by decide +kernel
theorem dX1_place_18 : decode cX1_place 18 = .ok (.if_icmp .lt 4, 3) := by decide +kernel
theorem dX1_place_21 : decode cX1_place 21 = .ok (.return_, 1) := by decide +kernel
theorem dX1_place_22 : decode cX1_place 22 = .ok (.iload_n 1, 1) := by decide +kernel
theorem dX1_place_23 : decode cX1_place 23 = .ok (.aload_n 0, 1) := by decide +kernel
theorem dX1_place_24 : decode cX1_place 24 = .ok (.getfield 9, 3) := by decide +kernel
theorem dX1_place_27 : decode cX1_place 27 = .ok (.if_icmp .ge 14, 3) := by decide +kernel
theorem dX1_place_30 : decode cX1_place 30 = .ok (.aload_n 0, 1) := by decide +kernel
theorem dX1_place_31 : decode cX1_place 31 = .ok (.getfield 22, 3) := by decide +kernel
theorem dX1_place_34 : decode cX1_place 34 = .ok (.iload_n 1, 1) := by decide +kernel
theorem dX1_place_35 : decode cX1_place 35 = .ok (.iaload, 1) := by decide +kernel
theorem dX1_place_36 : decode cX1_place 36 = .ok (.iload_n 2, 1) := by decide +kernel
theorem dX1_place_37 : decode cX1_place 37 = .ok (.if_icmp .ne 4, 3) := by decide +kernel
theorem dX1_place_40 : decode cX1_place 40 = .ok (.return_, 1) := by decide +kernel
theorem dX1_place_41 : decode cX1_place 41 = .ok (.aload_n 0, 1) := by decide +kernel
theorem dX1_place_42 : decode cX1_place 42 = .ok (.aload_n 0, 1) := by decide +kernel
theorem dX1_place_43 : decode cX1_place 43 = .ok (.getfield 9, 3) := by decide +kernel
theorem dX1_place_46 : decode cX1_place 46 = .ok (.iload_n 1, 1) := by decide +kernel
theorem dX1_place_47 : decode cX1_place 47 = .ok (.iconst 1, 1) := by decide +kernel
theorem dX1_place_48 : decode cX1_place 48 = .ok (.iadd, 1) := by decide +kernel
theorem dX1_place_49 : decode cX1_place 49 = .ok (.invokestatic 42, 3) := by decide +kernel
theorem dX1_place_52 : decode cX1_place 52 = .ok (.putfield 9, 3) := by decide +kernel
theorem dX1_place_55 : decode cX1_place 55 = .ok (.aload_n 0, 1) := by decide +kernel
theorem dX1_place_56 : decode cX1_place 56 = .ok (.getfield 22, 3) := by decide +kernel
theorem dX1_place_59 : decode cX1_place 59 = .ok (.iload_n 1, 1) := by decide +kernel
theorem dX1_place_60 : decode cX1_place 60 = .ok (.iload_n 2, 1) := by decide +kernel
theorem dX1_place_61 : decode cX1_place 61 = .ok (.iastore, 1) := by decide +kernel
theorem dX1_place_62 : decode cX1_place 62 = .ok (.aload_n 0, 1) := by decide +kernel
theorem dX1_place_63 : decode cX1_place 63 = .ok (.dup, 1) := by decide +kernel
theorem dX1_place_64 : decode cX1_place 64 = .ok (.getfield 15, 3) := by decide +kernel
theorem dX1_place_67 : decode cX1_place 67 = .ok (.iconst 1, 1) := by decide +kernel
theorem dX1_place_68 : decode cX1_place 68 = .ok (.iload_n 1, 1) := by decide +kernel
theorem dX1_place_69 : decode cX1_place 69 = .ok (.ishl, 1) := by decide +kernel
theorem dX1_place_70 : decode cX1_place 70 = .ok (.ior, 1) := by decide +kernel
theorem dX1_place_71 : decode cX1_place 71 = .ok (.putfield 15, 3) := by decide +kernel
theorem dX1_place_74 : decode cX1_place 74 = .ok (.return_, 1) := by decide +kernel
theorem dX1_shorten_0 : decode cX1_shorten 0 = .ok (.iload_n 1, 1) := by decide +kernel
theorem dX1_shorten_1 : decode cX1_shorten 1 = .ok (.istore_n 2, 1) := by decide +kernel
theorem dX1_shorten_2 : decode cX1_shorten 2 = .ok (.iload_n 2, 1) := by decide +kernel
theorem dX1_shorten_3 : decode cX1_shorten 3 = .ok (.aload_n 0, 1) := by decide +kernel
theorem dX1_shorten_4 : decode cX1_shorten 4 = .ok (.getfield 9, 3) := by decide +kernel
theorem dX1_shorten_7 : decode cX1_shorten 7 = .ok (.if_icmp .ge 21, 3) := by decide +kernel
theorem dX1_shorten_10 : decode cX1_shorten 10 = .ok (.aload_n 0, 1) := by decide +kernel
theorem dX1_shorten_11 : decode cX1_shorten 11 = .ok (.dup, 1) := by decide +kernel
theorem dX1_shorten_12 : decode cX1_shorten 12 = .ok (.getfield 15, 3) := by decide +kernel
theorem dX1_shorten_15 : decode cX1_shorten 15 = .ok (.iconst 1, 1) := by decide +kernel
theorem dX1_shorten_16 : decode cX1_shorten 16 = .ok (.iload_n 2, 1) := by decide +kernel
theorem dX1_shorten_17 : decode cX1_shorten 17 = .ok (.ishl, 1) := by decide +kernel
theorem dX1_shorten_18 : decode cX1_shorten 18 = .ok (.ior, 1) := by decide +kernel
theorem dX1_shorten_19 : decode cX1_shorten 19 = .ok (.putfield 15, 3) := by decide +kernel
theorem dX1_shorten_22 : decode cX1_shorten 22 = .ok (.iinc 2 1, 3) := by decide +kernel
theorem dX1_shorten_25 : decode cX1_shorten 25 = .ok (.goto (-23), 3) := by decide +kernel
theorem dX1_shorten_28 : decode cX1_shorten 28 = .ok (.aload_n 0, 1) := by decide +kernel
theorem dX1_shorten_29 : decode cX1_shorten 29 = .ok (.aload_n 0, 1) := by decide +kernel
theorem dX1_shorten_30 : decode cX1_shorten 30 = .ok (.getfield 9, 3) := by decide +kernel
theorem dX1_shorten_33 : decode cX1_shorten 33 = .ok (.iload_n 1, 1) := by decide +kernel
theorem dX1_shorten_34 : decode cX1_shorten 34 = .ok (.invokestatic 48, 3) := by decide +kernel
theorem dX1_shorten_37 : decode cX1_shorten 37 = .ok (.putfield 9, 3) := by decide +kernel
theorem dX1_shorten_40 : decode cX1_shorten 40 = .ok (.return_, 1) := by decide +kernel
theorem dX1_changeEverySet_0 : decode cX1_changeEverySet 0 = .ok (.aload_n 0, 1) := by decide +kernel
theorem dX1_changeEverySet_1 : decode cX1_changeEverySet 1 = .ok (.iconst 1, 1) := by decide +kernel
theorem dX1_changeEverySet_2 : decode cX1_changeEverySet 2 = .ok (.aload_n 0, 1) := by decide +kernel
theorem dX1_changeEverySet_3 : decode cX1_changeEverySet 3 = .ok (.getfield 22, 3) := by decide +kernel
theorem dX1_changeEverySet_6 : decode cX1_changeEverySet 6 = .ok (.arraylength, 1) := by decide +kernel
theorem dX1_changeEverySet_7 : decode cX1_changeEverySet 7 = .ok (.ishl, 1) := by decide +kernel
theorem dX1_changeEverySet_8 : decode cX1_changeEverySet 8 = .ok (.iconst 1, 1) := by decide +kernel
theorem dX1_changeEverySet_9 : decode cX1_changeEverySet 9 = .ok (.isub, 1) := by decide +kernel
theorem dX1_changeEverySet_10 : decode cX1_changeEverySet 10 = .ok (.putfield 15, 3) := by decide +kernel
theorem dX1_changeEverySet_13 : decode cX1_changeEverySet 13 = .ok (.return_, 1) := by decide +kernel
theorem dX1_knows_0 : decode cX1_knows 0 = .ok (.iload_n 1, 1) := by decide +kernel
theorem dX1_knows_1 : decode cX1_knows 1 = .ok (.ifCond .lt 17, 3) := by decide +kernel
theorem dX1_knows_4 : decode cX1_knows 4 = .ok (.iload_n 1, 1) := by decide +kernel
theorem dX1_knows_5 : decode cX1_knows 5 = .ok (.iconst 1, 1) := by decide +kernel
theorem dX1_knows_6 : decode cX1_knows 6 = .ok (.aload_n 0, 1) := by decide +kernel
theorem dX1_knows_7 : decode cX1_knows 7 = .ok (.getfield 9, 3) := by decide +kernel
theorem dX1_knows_10 : decode cX1_knows 10 = .ok (.ishl, 1) := by decide +kernel
theorem dX1_knows_11 : decode cX1_knows 11 = .ok (.if_icmp .ge 7, 3) := by decide +kernel
theorem dX1_knows_14 : decode cX1_knows 14 = .ok (.iconst 1, 1) := by decide +kernel
theorem dX1_knows_15 : decode cX1_knows 15 = .ok (.goto 4, 3) := by decide +kernel
theorem dX1_knows_18 : decode cX1_knows 18 = .ok (.iconst 0, 1) := by decide +kernel
theorem dX1_knows_19 : decode cX1_knows 19 = .ok (.ireturn, 1) := by decide +kernel
set_option maxRecDepth 20000 in
theorem ggX1_refresh_X1_forget : GoodIn wsX1_refresh wsX1_forget := goodIn_r _ [7, 2, 8, 9, 10, 40, 41, 42, 43, 44, 45, 46, 47] (by decide +kernel) (by decide +kernel)
set_option maxRecDepth 20000 in
theorem gX1_refresh_X1_forget : GoodIn wsX1_refresh (wsV RX1 51 RX1 yX1_forget wsX1_forget) := goodIn_app (goodIn_of _ (by decide +kernel)) ggX1_refresh_X1_forget
set_option maxRecDepth 20000 in
theorem ggX1_refresh_X1_knows : GoodIn wsX1_refresh wsX1_knows := goodIn_r _ [14, 15, 40, 41, 42, 43, 44, 45, 46, 47] (by decide +kernel) (by decide +kernel)
set_option maxRecDepth 20000 in
theorem gX1_refresh_X1_knows : GoodIn wsX1_refresh (wsV RX1 55 RX1 yX1_knows wsX1_knows) := goodIn_app (goodIn_of _ (by decide +kernel)) ggX1_refresh_X1_knows
set_option maxRecDepth 20000 in
theorem ggX1_refresh_X1_make : GoodIn wsX1_refresh wsX1_make := goodIn_r _ [19, 20, 21, 22, 23, 6, 24, 9, 2, 8, 10, 25, 26, 27, 28, 29, 30, 31, 32, 33, 34, 35, 36, 37, 38, 39, 40, 41, 42, 43, 44, 45, 46, 47, 48, 49] (by decide +kernel) (by decide +kernel)
set_option maxRecDepth 20000 in
theorem gX1_refresh_X1_make : GoodIn wsX1_refresh (wsV RX1 59 RX1 yX1_make wsX1_make) := goodIn_app (goodIn_of _ (by decide +kernel)) ggX1_refresh_X1_make
theorem dX1_refresh_0 : decode cX1_refresh 0 = .ok (.aload_n 0, 1) := by decide +kernel
theorem dX1_refresh_1 : decode cX1_refresh 1 = .ok (.getfield 15, 3) := by decide +kernel
theorem dX1_refresh_4 : decode cX1_refresh 4 = .ok (.ifCond .ne 4, 3) := by decide +kernel
theorem dX1_refresh_7 : decode cX1_refresh 7 = .ok (.return_, 1) := by decide +kernel
theorem dX1_refresh_8 : decode cX1_refresh 8 = .ok (.iconst 1, 1) := by decide +kernel
theorem dX1_refresh_9 : decode cX1_refresh 9 = .ok (.istore_n 1, 1) := by decide +kernel
theorem dX1_refresh_10 : decode cX1_refresh 10 = .ok (.iload_n 1, 1) := by decide +kernel
theorem dX1_refresh_11 : decode cX1_refresh 11 = .ok (.aload_n 0, 1) := by decide +kernel
theorem dX1_refresh_12 : decode cX1_refresh 12 = .ok (.getfield 36, 3) := by decide +kernel
theorem dX1_refresh_15 : decode cX1_refresh 15 = .ok (.arraylength, 1) := by decide +kernel
theorem dX1_refresh_16 : decode cX1_refresh 16 = .ok (.if_icmp .ge 36, 3) := by decide +kernel
theorem dX1_refresh_19 : decode cX1_refresh 19 = .ok (.iload_n 1, 1) := by decide +kernel
theorem dX1_refresh_20 : decode cX1_refresh 20 = .ok (.aload_n 0, 1) := by decide +kernel
theorem dX1_refresh_21 : decode cX1_refresh 21 = .ok (.getfield 15, 3) := by decide +kernel
theorem dX1_refresh_24 : decode cX1_refresh 24 = .ok (.iand, 1) := by decide +kernel
theorem dX1_refresh_25 : decode cX1_refresh 25 = .ok (.ifCond .eq 21, 3) := by decide +kernel
theorem dX1_refresh_28 : decode cX1_refresh 28 = .ok (.aload_n 0, 1) := by decide +kernel
theorem dX1_refresh_29 : decode cX1_refresh 29 = .ok (.iload_n 1, 1) := by decide +kernel
theorem dX1_refresh_30 : decode cX1_refresh 30 = .ok (.invokevirtual 51, 3) := by decide +kernel
theorem dX1_refresh_33 : decode cX1_refresh 33 = .ok (.aload_n 0, 1) := by decide +kernel
theorem dX1_refresh_34 : decode cX1_refresh 34 = .ok (.iload_n 1, 1) := by decide +kernel
theorem dX1_refresh_35 : decode cX1_refresh 35 = .ok (.invokevirtual 55, 3) := by decide +kernel
theorem dX1_refresh_38 : decode cX1_refresh 38 = .ok (.ifCond .eq 8, 3) := by decide +kernel
theorem dX1_refresh_41 : decode cX1_refresh 41 = .ok (.aload_n 0, 1) := by decide +kernel
theorem dX1_refresh_42 : decode cX1_refresh 42 = .ok (.iload_n 1, 1) := by decide +kernel
theorem dX1_refresh_43 : decode cX1_refresh 43 = .ok (.invokevirtual 59, 3) := by decide +kernel
theorem dX1_refresh_46 : decode cX1_refresh 46 = .ok (.iinc 1 1, 3) := by decide +kernel
theorem dX1_refresh_49 : decode cX1_refresh 49 = .ok (.goto (-39), 3) := by decide +kernel
theorem dX1_refresh_52 : decode cX1_refresh 52 = .ok (.aload_n 0, 1) := by decide +kernel
theorem dX1_refresh_53 : decode cX1_refresh 53 = .ok (.iconst 0, 1) := by decide +kernel
theorem dX1_refresh_54 : decode cX1_refresh 54 = .ok (.putfield 15, 3) := by decide +kernel
theorem dX1_refresh_57 : decode cX1_refresh 57 = .ok (.return_, 1) := by decide +kernel
theorem dX1_forget_0 : decode cX1_forget 0 = .ok (.iconst 0, 1) := by decide +kernel
theorem dX1_forget_1 : decode cX1_forget 1 = .ok (.istore_n 2, 1) := by decide +kernel
theorem dX1_forget_2 : decode cX1_forget 2 = .ok (.iload_n 2, 1) := by decide +kernel
theorem dX1_forget_3 : decode cX1_forget 3 = .ok (.aload_n 0, 1) := by decide +kernel
theorem dX1_forget_4 : decode cX1_forget 4 = .ok (.getfield 36, 3) := by decide +kernel
theorem dX1_forget_7 : decode cX1_forget 7 = .ok (.iload_n 1, 1) := by decide +kernel
theorem dX1_forget_8 : decode cX1_forget 8 = .ok (.iaload, 1) := by decide +kernel
theorem dX1_forget_9 : decode cX1_forget 9 = .ok (.if_icmp .ge 37, 3) := by decide +kernel
theorem dX1_forget_12 : decode cX1_forget 12 = .ok (.aload_n 0, 1) := by decide +kernel
theorem dX1_forget_13 : decode cX1_forget 13 = .ok (.getfield 33, 3) := by decide +kernel
theorem dX1_forget_16 : decode cX1_forget 16 = .ok (.iload_n 1, 1) := by decide +kernel
theorem dX1_forget_17 : decode cX1_forget 17 = .ok (.aaload, 1) := by decide +kernel
theorem dX1_forget_18 : decode cX1_forget 18 = .ok (.iload_n 2, 1) := by decide +kernel
theorem dX1_forget_19 : decode cX1_forget 19 = .ok (.iaload, 1) := by decide +kernel
theorem dX1_forget_20 : decode cX1_forget 20 = .ok (.istore_n 3, 1) := by decide +kernel
theorem dX1_forget_21 : decode cX1_forget 21 = .ok (.aload_n 0, 1) := by decide +kernel
theorem dX1_forget_22 : decode cX1_forget 22 = .ok (.getfield 28, 3) := by decide +kernel
theorem dX1_forget_25 : decode cX1_forget 25 = .ok (.iload_n 1, 1) := by decide +kernel
theorem dX1_forget_26 : decode cX1_forget 26 = .ok (.aaload, 1) := by decide +kernel
theorem dX1_forget_27 : decode cX1_forget 27 = .ok (.iload_n 3, 1) := by decide +kernel
theorem dX1_forget_28 : decode cX1_forget 28 = .ok (.lconst 0, 1) := by decide +kernel
theorem dX1_forget_29 : decode cX1_forget 29 = .ok (.lastore, 1) := by decide +kernel
theorem dX1_forget_30 : decode cX1_forget 30 = .ok (.aload_n 0, 1) := by decide +kernel
theorem dX1_forget_31 : decode cX1_forget 31 = .ok (.getfield 39, 3) := by decide +kernel
theorem dX1_forget_34 : decode cX1_forget 34 = .ok (.iload_n 3, 1) := by decide +kernel
theorem dX1_forget_35 : decode cX1_forget 35 = .ok (.dup2, 1) := by decide +kernel
theorem dX1_forget_36 : decode cX1_forget 36 = .ok (.iaload, 1) := by decide +kernel
theorem dX1_forget_37 : decode cX1_forget 37 = .ok (.iconst 1, 1) := by decide +kernel
theorem dX1_forget_38 : decode cX1_forget 38 = .ok (.isub, 1) := by decide +kernel
theorem dX1_forget_39 : decode cX1_forget 39 = .ok (.iastore, 1) := by decide +kernel
theorem dX1_forget_40 : decode cX1_forget 40 = .ok (.iinc 2 1, 3) := by decide +kernel
theorem dX1_forget_43 : decode cX1_forget 43 = .ok (.goto (-41), 3) := by decide +kernel
theorem dX1_forget_46 : decode cX1_forget 46 = .ok (.aload_n 0, 1) := by decide +kernel
theorem dX1_forget_47 : decode cX1_forget 47 = .ok (.getfield 36, 3) := by decide +kernel
theorem dX1_forget_50 : decode cX1_forget 50 = .ok (.iload_n 1, 1) := by decide +kernel
theorem dX1_forget_51 : decode cX1_forget 51 = .ok (.iconst 0, 1) := by decide +kernel
theorem dX1_forget_52 : decode cX1_forget 52 = .ok (.iastore, 1) := by decide +kernel
theorem dX1_forget_53 : decode cX1_forget 53 = .ok (.return_, 1) := by decide +kernel
set_option maxRecDepth 20000 in
theorem ggX1_make_X1_add : GoodIn wsX1_make wsX1_add := goodIn_r _ [6, 7, 8, 9, 10, 26, 27, 28, 29, 30, 31, 32, 33] (by decide +kernel) (by decide +kernel)
set_option maxRecDepth 20000 in
theorem gX1_make_X1_add : GoodIn wsX1_make (wsV RX1 62 RX1 yX1_add wsX1_add) := goodIn_app (goodIn_of _ (by decide +kernel)) ggX1_make_X1_add
set_option maxRecDepth 20000 in
theorem ggX1_make_X1_join : GoodIn wsX1_make wsX1_join := goodIn_r _ [14, 15, 8, 9, 7, 16, 17, 18, 19, 20, 21, 22, 23, 24, 25, 2, 3, 4, 5, 6, 10, 26, 27, 28, 29, 30, 31, 32, 33, 34, 35] (by decide +kernel) (by decide +kernel)
set_option maxRecDepth 20000 in
theorem gX1_make_X1_join : GoodIn wsX1_make (wsV RX1 66 RX1 yX1_join wsX1_join) := goodIn_app (goodIn_of _ (by decide +kernel)) ggX1_make_X1_join
theorem dX1_make_0 : decode cX1_make 0 = .ok (.iconst 0, 1) := by decide +kernel
theorem dX1_make_1 : decode cX1_make 1 = .ok (.istore_n 2, 1) := by decide +kernel
theorem dX1_make_2 : decode cX1_make 2 = .ok (.iload_n 2, 1) := by decide +kernel
theorem dX1_make_3 : decode cX1_make 3 = .ok (.aload_n 0, 1) := by decide +kernel
theorem dX1_make_4 : decode cX1_make 4 = .ok (.getfield 22, 3) := by decide +kernel
theorem dX1_make_7 : decode cX1_make 7 = .ok (.arraylength, 1) := by decide +kernel
theorem dX1_make_8 : decode cX1_make 8 = .ok (.if_icmp .ge 32, 3) := by decide +kernel
theorem dX1_make_11 : decode cX1_make 11 = .ok (.iload_n 1, 1) := by decide +kernel
theorem dX1_make_12 : decode cX1_make 12 = .ok (.iconst 1, 1) := by decide +kernel
theorem dX1_make_13 : decode cX1_make 13 = .ok (.iload_n 2, 1) := by decide +kernel
theorem dX1_make_14 : decode cX1_make 14 = .ok (.ishl, 1) := by decide +kernel
theorem dX1_make_15 : decode cX1_make 15 = .ok (.if_icmp .ne 19, 3) := by decide +kernel
theorem dX1_make_18 : decode cX1_make 18 = .ok (.aload_n 0, 1) := by decide +kernel
theorem dX1_make_19 : decode cX1_make 19 = .ok (.iload_n 1, 1) := by decide +kernel
theorem dX1_make_20 : decode cX1_make 20 = .ok (.aload_n 0, 1) := by decide +kernel
theorem dX1_make_21 : decode cX1_make 21 = .ok (.getfield 22, 3) := by decide +kernel
theorem dX1_make_24 : decode cX1_make 24 = .ok (.iload_n 2, 1) := by decide +kernel
theorem dX1_make_25 : decode cX1_make 25 = .ok (.iaload, 1) := by decide +kernel
theorem dX1_make_26 : decode cX1_make 26 = .ok (.lconst 1, 1) := by decide +kernel
theorem dX1_make_27 : decode cX1_make 27 = .ok (.sipush 3000, 3) := by decide +kernel
theorem dX1_make_30 : decode cX1_make 30 = .ok (.invokevirtual 62, 3) := by decide +kernel
theorem dX1_make_33 : decode cX1_make 33 = .ok (.return_, 1) := by decide +kernel
theorem dX1_make_34 : decode cX1_make 34 = .ok (.iinc 2 1, 3) := by decide +kernel
theorem dX1_make_37 : decode cX1_make 37 = .ok (.goto (-35), 3) := by decide +kernel
theorem dX1_make_40 : decode cX1_make 40 = .ok (.iload_n 1, 1) := by decide +kernel
theorem dX1_make_41 : decode cX1_make 41 = .ok (.iload_n 1, 1) := by decide +kernel
theorem dX1_make_42 : decode cX1_make 42 = .ok (.ineg, 1) := by decide +kernel
theorem dX1_make_43 : decode cX1_make 43 = .ok (.iand, 1) := by decide +kernel
theorem dX1_make_44 : decode cX1_make 44 = .ok (.istore_n 2, 1) := by decide +kernel
theorem dX1_make_45 : decode cX1_make 45 = .ok (.iload_n 2, 1) := by decide +kernel
theorem dX1_make_46 : decode cX1_make 46 = .ok (.istore_n 3, 1) := by decide +kernel
theorem dX1_make_47 : decode cX1_make 47 = .ok (.iload_n 3, 1) := by decide +kernel
theorem dX1_make_48 : decode cX1_make 48 = .ok (.iload_n 1, 1) := by decide +kernel
theorem dX1_make_49 : decode cX1_make 49 = .ok (.if_icmp .ge 31, 3) := by decide +kernel
theorem dX1_make_52 : decode cX1_make 52 = .ok (.iload_n 3, 1) := by decide +kernel
theorem dX1_make_53 : decode cX1_make 53 = .ok (.iload_n 1, 1) := by decide +kernel
theorem dX1_make_54 : decode cX1_make 54 = .ok (.iand, 1) := by decide +kernel
theorem dX1_make_55 : decode cX1_make 55 = .ok (.iload_n 3, 1) := by decide +kernel
theorem dX1_make_56 : decode cX1_make 56 = .ok (.if_icmp .ne 18, 3) := by decide +kernel
theorem dX1_make_59 : decode cX1_make 59 = .ok (.iload_n 3, 1) := by decide +kernel
theorem dX1_make_60 : decode cX1_make 60 = .ok (.iload_n 2, 1) := by decide +kernel
theorem dX1_make_61 : decode cX1_make 61 = .ok (.iand, 1) := by decide +kernel
theorem dX1_make_62 : decode cX1_make 62 = .ok (.ifCond .eq 12, 3) := by decide +kernel
theorem dX1_make_65 : decode cX1_make 65 = .ok (.aload_n 0, 1) := by decide +kernel
theorem dX1_make_66 : decode cX1_make 66 = .ok (.iload_n 1, 1) := by decide +kernel
theorem dX1_make_67 : decode cX1_make 67 = .ok (.iload_n 3, 1) := by decide +kernel
theorem dX1_make_68 : decode cX1_make 68 = .ok (.iload_n 1, 1) := by decide +kernel
theorem dX1_make_69 : decode cX1_make 69 = .ok (.iload_n 3, 1) := by decide +kernel
theorem dX1_make_70 : decode cX1_make 70 = .ok (.ixor, 1) := by decide +kernel
theorem dX1_make_71 : decode cX1_make 71 = .ok (.invokevirtual 66, 3) := by decide +kernel
theorem dX1_make_74 : decode cX1_make 74 = .ok (.iinc 3 1, 3) := by decide +kernel
theorem dX1_make_77 : decode cX1_make 77 = .ok (.goto (-30), 3) := by decide +kernel
theorem dX1_make_80 : decode cX1_make 80 = .ok (.return_, 1) := by decide +kernel
set_option maxRecDepth 20000 in
theorem ggX1_join_X3_allow : GoodIn wsX1_join wsX3_allow := goodIn_r _ [13, 14, 29, 30] (by decide +kernel) (by decide +kernel)
set_option maxRecDepth 20000 in
theorem gX1_join_X3_allow : GoodIn wsX1_join (wsV RX1 70 RX3 yX3_allow wsX3_allow) := goodIn_app (goodIn_of _ (by decide +kernel)) ggX1_join_X3_allow
set_option maxRecDepth 20000 in
theorem ggX1_join_X1_add : GoodIn wsX1_join wsX1_add := goodIn_r _ [19, 4, 2, 3, 20, 21, 22, 23, 24, 25, 26, 27, 28] (by decide +kernel) (by decide +kernel)
set_option maxRecDepth 20000 in
theorem gX1_join_X1_add : GoodIn wsX1_join (wsV RX1 62 RX1 yX1_add wsX1_add) := goodIn_app (goodIn_of _ (by decide +kernel)) ggX1_join_X1_add
theorem dX1_join_0 : decode cX1_join 0 = .ok (.aload_n 0, 1) := by decide +kernel
theorem dX1_join_1 : decode cX1_join 1 = .ok (.getfield 18, 3) := by decide +kernel
theorem dX1_join_4 : decode cX1_join 4 = .ok (.iconst 0, 1) := by decide +kernel
theorem dX1_join_5 : decode cX1_join 5 = .ok (.invokevirtual 70, 3) := by decide +kernel
theorem dX1_join_8 : decode cX1_join 8 = .ok (.istore 4, 2) := by decide +kernel
theorem dX1_join_10 : decode cX1_join 10 = .ok (.aload_n 0, 1) := by decide +kernel
theorem dX1_join_11 : decode cX1_join 11 = .ok (.getfield 18, 3) := by decide +kernel
theorem dX1_join_14 : decode cX1_join 14 = .ok (.iconst 1, 1) := by decide +kernel
theorem dX1_join_15 : decode cX1_join 15 = .ok (.invokevirtual 70, 3) := by decide +kernel
theorem dX1_join_18 : decode cX1_join 18 = .ok (.istore 5, 2) := by decide +kernel
theorem dX1_join_20 : decode cX1_join 20 = .ok (.aload_n 0, 1) := by decide +kernel
theorem dX1_join_21 : decode cX1_join 21 = .ok (.getfield 18, 3) := by decide +kernel
theorem dX1_join_24 : decode cX1_join 24 = .ok (.iconst 2, 1) := by decide +kernel
theorem dX1_join_25 : decode cX1_join 25 = .ok (.invokevirtual 70, 3) := by decide +kernel
theorem dX1_join_28 : decode cX1_join 28 = .ok (.istore 6, 2) := by decide +kernel
theorem dX1_join_30 : decode cX1_join 30 = .ok (.aload_n 0, 1) := by decide +kernel
theorem dX1_join_31 : decode cX1_join 31 = .ok (.getfield 18, 3) := by decide +kernel
theorem dX1_join_34 : decode cX1_join 34 = .ok (.iconst 3, 1) := by decide +kernel
theorem dX1_join_35 : decode cX1_join 35 = .ok (.invokevirtual 70, 3) := by decide +kernel
theorem dX1_join_38 : decode cX1_join 38 = .ok (.istore 7, 2) := by decide +kernel
theorem dX1_join_40 : decode cX1_join 40 = .ok (.iconst 0, 1) := by decide +kernel
theorem dX1_join_41 : decode cX1_join 41 = .ok (.istore 8, 2) := by decide +kernel
theorem dX1_join_43 : decode cX1_join 43 = .ok (.iload 8, 2) := by decide +kernel
theorem dX1_join_45 : decode cX1_join 45 = .ok (.aload_n 0, 1) := by decide +kernel
theorem dX1_join_46 : decode cX1_join 46 = .ok (.getfield 36, 3) := by decide +kernel
theorem dX1_join_49 : decode cX1_join 49 = .ok (.iload_n 2, 1) := by decide +kernel
theorem dX1_join_50 : decode cX1_join 50 = .ok (.iaload, 1) := by decide +kernel
theorem dX1_join_51 : decode cX1_join 51 = .ok (.if_icmp .ge 221, 3) := by decide +kernel
theorem dX1_join_54 : decode cX1_join 54 = .ok (.aload_n 0, 1) := by decide +kernel
theorem dX1_join_55 : decode cX1_join 55 = .ok (.getfield 33, 3) := by decide +kernel
theorem dX1_join_58 : decode cX1_join 58 = .ok (.iload_n 2, 1) := by decide +kernel
theorem dX1_join_59 : decode cX1_join 59 = .ok (.aaload, 1) := by decide +kernel
theorem dX1_join_60 : decode cX1_join 60 = .ok (.iload 8, 2) := by decide +kernel
theorem dX1_join_62 : decode cX1_join 62 = .ok (.iaload, 1) := by decide +kernel
theorem dX1_join_63 : decode cX1_join 63 = .ok (.istore 9, 2) := by decide +kernel
theorem dX1_join_65 : decode cX1_join 65 = .ok (.iconst 0, 1) := by decide +kernel
theorem dX1_join_66 : decode cX1_join 66 = .ok (.istore 10, 2) := by decide +kernel
theorem dX1_join_68 : decode cX1_join 68 = .ok (.iload 10, 2) := by decide +kernel
theorem dX1_join_70 : decode cX1_join 70 = .ok (.aload_n 0, 1) := by decide +kernel
theorem dX1_join_71 : decode cX1_join 71 = .ok (.getfield 36, 3) := by decide +kernel
theorem dX1_join_74 : decode cX1_join 74 = .ok (.iload_n 3, 1) := by decide +kernel
theorem dX1_join_75 : decode cX1_join 75 = .ok (.iaload, 1) := by decide +kernel
theorem dX1_join_76 : decode cX1_join 76 = .ok (.if_icmp .ge 190, 3) := by decide +kernel
theorem dX1_join_79 : decode cX1_join 79 = .ok (.aload_n 0, 1) := by decide +kernel
theorem dX1_join_80 : decode cX1_join 80 = .ok (.getfield 33, 3) := by decide +kernel
theorem dX1_join_83 : decode cX1_join 83 = .ok (.iload_n 3, 1) := by decide +kernel
theorem dX1_join_84 : decode cX1_join 84 = .ok (.aaload, 1) := by decide +kernel
theorem dX1_join_85 : decode cX1_join 85 = .ok (.iload 10, 2) := by decide +kernel
theorem dX1_join_87 : decode cX1_join 87 = .ok (.iaload, 1) := by decide +kernel
theorem dX1_join_88 : decode cX1_join 88 = .ok (.istore 11, 2) := by decide +kernel
theorem dX1_join_90 : decode cX1_join 90 = .ok (.aload_n 0, 1) := by decide +kernel
theorem dX1_join_91 : decode cX1_join 91 = .ok (.getfield 28, 3) := by decide +kernel
theorem dX1_join_94 : decode cX1_join 94 = .ok (.iload_n 2, 1) := by decide +kernel
theorem dX1_join_95 : decode cX1_join 95 = .ok (.aaload, 1) := by decide +kernel
theorem dX1_join_96 : decode cX1_join 96 = .ok (.iload 9, 2) := by decide +kernel
theorem dX1_join_98 : decode cX1_join 98 = .ok (.laload, 1) := by decide +kernel
theorem dX1_join_99 : decode cX1_join 99 = .ok (.aload_n 0, 1) := by decide +kernel
theorem dX1_join_100 : decode cX1_join 100 = .ok (.getfield 28, 3) := by decide +kernel
theorem dX1_join_103 : decode cX1_join 103 = .ok (.iload_n 3, 1) := by decide +kernel
theorem dX1_join_104 : decode cX1_join 104 = .ok (.aaload, 1) := by decide +kernel
theorem dX1_join_105 : decode cX1_join 105 = .ok (.iload 11, 2) := by decide +kernel
theorem dX1_join_107 : decode cX1_join 107 = .ok (.laload, 1) := by decide +kernel
theorem dX1_join_108 : decode cX1_join 108 = .ok (.lmul, 1) := by decide +kernel
theorem dX1_join_109 : decode cX1_join 109 = .ok (.lstore 12, 2) := by decide +kernel
theorem dX1_join_111 : decode cX1_join 111 = .ok (.iload 4, 2) := by decide +kernel
theorem dX1_join_113 : decode cX1_join 113 = .ok (.ifCond .eq 22, 3) := by decide +kernel
theorem dX1_join_116 : decode cX1_join 116 = .ok (.aload_n 0, 1) := by decide +kernel
theorem dX1_join_117 : decode cX1_join 117 = .ok (.iload_n 1, 1) := by decide +kernel
theorem dX1_join_118 : decode cX1_join 118 = .ok (.iload 9, 2) := by decide +kernel
theorem dX1_join_120 : decode cX1_join 120 = .ok (.iload 11, 2) := by decide +kernel
theorem dX1_join_122 : decode cX1_join 122 = .ok (.iadd, 1) := by decide +kernel
theorem dX1_join_123 : decode cX1_join 123 = .ok (.lload 12, 2) := by decide +kernel
theorem dX1_join_125 : decode cX1_join 125 = .ok (.aload_n 0, 1) := by decide +kernel
theorem dX1_join_126 : decode cX1_join 126 = .ok (.getfield 18, 3) := by decide +kernel
theorem dX1_join_129 : decode cX1_join 129 = .ok (.getfield 75, 3) := by decide +kernel
theorem dX1_join_132 : decode cX1_join 132 = .ok (.invokevirtual 62, 3) := by decide +kernel
theorem dX1_join_135 : decode cX1_join 135 = .ok (.iload 5, 2) := by decide +kernel
theorem dX1_join_137 : decode cX1_join 137 = .ok (.ifCond .eq 25, 3) := by decide +kernel
theorem dX1_join_140 : decode cX1_join 140 = .ok (.aload_n 0, 1) := by decide +kernel
theorem dX1_join_141 : decode cX1_join 141 = .ok (.iload_n 1, 1) := by decide +kernel
theorem dX1_join_142 : decode cX1_join 142 = .ok (.iload 9, 2) := by decide +kernel
theorem dX1_join_144 : decode cX1_join 144 = .ok (.iload 11, 2) := by decide +kernel
theorem dX1_join_146 : decode cX1_join 146 = .ok (.isub, 1) := by decide +kernel
theorem dX1_join_147 : decode cX1_join 147 = .ok (.invokestatic 78, 3) := by decide +kernel
theorem dX1_join_150 : decode cX1_join 150 = .ok (.lload 12, 2) := by decide +kernel
theorem dX1_join_152 : decode cX1_join 152 = .ok (.aload_n 0, 1) := by decide +kernel
theorem dX1_join_153 : decode cX1_join 153 = .ok (.getfield 18, 3) := by decide +kernel
theorem dX1_join_156 : decode cX1_join 156 = .ok (.getfield 75, 3) := by decide +kernel
theorem dX1_join_159 : decode cX1_join 159 = .ok (.invokevirtual 62, 3) := by decide +kernel
theorem dX1_join_162 : decode cX1_join 162 = .ok (.iload 6, 2) := by decide +kernel
theorem dX1_join_164 : decode cX1_join 164 = .ok (.ifCond .eq 22, 3) := by decide +kernel
theorem dX1_join_167 : decode cX1_join 167 = .ok (.aload_n 0, 1) := by decide +kernel
theorem dX1_join_168 : decode cX1_join 168 = .ok (.iload_n 1, 1) := by decide +kernel
theorem dX1_join_169 : decode cX1_join 169 = .ok (.iload 9, 2) := by decide +kernel
theorem dX1_join_171 : decode cX1_join 171 = .ok (.iload 11, 2) := by decide +kernel
theorem dX1_join_173 : decode cX1_join 173 = .ok (.imul, 1) := by decide +kernel
theorem dX1_join_174 : decode cX1_join 174 = .ok (.lload 12, 2) := by decide +kernel
theorem dX1_join_176 : decode cX1_join 176 = .ok (.aload_n 0, 1) := by decide +kernel
theorem dX1_join_177 : decode cX1_join 177 = .ok (.getfield 18, 3) := by decide +kernel
theorem dX1_join_180 : decode cX1_join 180 = .ok (.getfield 75, 3) := by decide +kernel
theorem dX1_join_183 : decode cX1_join 183 = .ok (.invokevirtual 62, 3) := by decide +kernel
theorem dX1_join_186 : decode cX1_join 186 = .ok (.iload 7, 2) := by decide +kernel
theorem dX1_join_188 : decode cX1_join 188 = .ok (.ifCond .eq 35, 3) := by decide +kernel
theorem dX1_join_191 : decode cX1_join 191 = .ok (.iload 11, 2) := by decide +kernel
theorem dX1_join_193 : decode cX1_join 193 = .ok (.ifCond .le 30, 3) := by decide +kernel
theorem dX1_join_196 : decode cX1_join 196 = .ok (.iload 9, 2) := by decide +kernel
theorem dX1_join_198 : decode cX1_join 198 = .ok (.iload 11, 2) := by decide +kernel
theorem dX1_join_200 : decode cX1_join 200 = .ok (.irem, 1) := by decide +kernel
theorem dX1_join_201 : decode cX1_join 201 = .ok (.ifCond .ne 22, 3) := by decide +kernel
theorem dX1_join_204 : decode cX1_join 204 = .ok (.aload_n 0, 1) := by decide +kernel
theorem dX1_join_205 : decode cX1_join 205 = .ok (.iload_n 1, 1) := by decide +kernel
theorem dX1_join_206 : decode cX1_join 206 = .ok (.iload 9, 2) := by decide +kernel
theorem dX1_join_208 : decode cX1_join 208 = .ok (.iload 11, 2) := by decide +kernel
theorem dX1_join_210 : decode cX1_join 210 = .ok (.idiv, 1) := by decide +kernel
theorem dX1_join_211 : decode cX1_join 211 = .ok (.lload 12, 2) := by decide +kernel
theorem dX1_join_213 : decode cX1_join 213 = .ok (.aload_n 0, 1) := by decide +kernel
theorem dX1_join_214 : decode cX1_join 214 = .ok (.getfield 18, 3) := by decide +kernel
theorem dX1_join_217 : decode cX1_join 217 = .ok (.getfield 75, 3) := by decide +kernel
theorem dX1_join_220 : decode cX1_join 220 = .ok (.invokevirtual 62, 3) := by decide +kernel
theorem dX1_join_223 : decode cX1_join 223 = .ok (.iload 7, 2) := by decide +kernel
theorem dX1_join_225 : decode cX1_join 225 = .ok (.ifCond .eq 35, 3) := by decide +kernel
theorem dX1_join_228 : decode cX1_join 228 = .ok (.iload 9, 2) := by decide +kernel
theorem dX1_join_230 : decode cX1_join 230 = .ok (.ifCond .le 30, 3) := by decide +kernel
theorem dX1_join_233 : decode cX1_join 233 = .ok (.iload 11, 2) := by decide +kernel
theorem dX1_join_235 : decode cX1_join 235 = .ok (.iload 9, 2) := by decide +kernel
theorem dX1_join_237 : decode cX1_join 237 = .ok (.irem, 1) := by decide +kernel
theorem dX1_join_238 : decode cX1_join 238 = .ok (.ifCond .ne 22, 3) := by decide +kernel
theorem dX1_join_241 : decode cX1_join 241 = .ok (.aload_n 0, 1) := by decide +kernel
theorem dX1_join_242 : decode cX1_join 242 = .ok (.iload_n 1, 1) := by decide +kernel
theorem dX1_join_243 : decode cX1_join 243 = .ok (.iload 11, 2) := by decide +kernel
theorem dX1_join_245 : decode cX1_join 245 = .ok (.iload 9, 2) := by decide +kernel
theorem dX1_join_247 : decode cX1_join 247 = .ok (.idiv, 1) := by decide +kernel
theorem dX1_join_248 : decode cX1_join 248 = .ok (.lload 12, 2) := by decide +kernel
theorem dX1_join_250 : decode cX1_join 250 = .ok (.aload_n 0, 1) := by decide +kernel
theorem dX1_join_251 : decode cX1_join 251 = .ok (.getfield 18, 3) := by decide +kernel
theorem dX1_join_254 : decode cX1_join 254 = .ok (.getfield 75, 3) := by decide +kernel
theorem dX1_join_257 : decode cX1_join 257 = .ok (.invokevirtual 62, 3) := by decide +kernel
theorem dX1_join_260 : decode cX1_join 260 = .ok (.iinc 10 1, 3) := by decide +kernel
theorem dX1_join_263 : decode cX1_join 263 = .ok (.goto (-195), 3) := by decide +kernel
theorem dX1_join_266 : decode cX1_join 266 = .ok (.iinc 8 1, 3) := by decide +kernel
theorem dX1_join_269 : decode cX1_join 269 = .ok (.goto (-226), 3) := by decide +kernel
theorem dX1_join_272 : decode cX1_join 272 = .ok (.return_, 1) := by decide +kernel
theorem dX1_add_0 : decode cX1_add 0 = .ok (.iload_n 2, 1) := by decide +kernel
theorem dX1_add_1 : decode cX1_add 1 = .ok (.iconst 1, 1) := by decide +kernel
theorem dX1_add_2 : decode cX1_add 2 = .ok (.if_icmp .lt 16, 3) := by decide +kernel
theorem dX1_add_5 : decode cX1_add 5 = .ok (.iload_n 2, 1) := by decide +kernel
theorem dX1_add_6 : decode cX1_add 6 = .ok (.iload 5, 2) := by decide +kernel
theorem dX1_add_8 : decode cX1_add 8 = .ok (.if_icmp .gt 10, 3) := by decide +kernel
theorem dX1_add_11 : decode cX1_add 11 = .ok (.iload_n 2, 1) := by decide +kernel
theorem dX1_add_12 : decode cX1_add 12 = .ok (.sipush 3000, 3) := by decide +kernel
theorem dX1_add_15 : decode cX1_add 15 = .ok (.if_icmp .le 4, 3) := by decide +kernel
theorem dX1_add_18 : decode cX1_add 18 = .ok (.return_, 1) := by decide +kernel
theorem dX1_add_19 : decode cX1_add 19 = .ok (.aload_n 0, 1) := by decide +kernel
theorem dX1_add_20 : decode cX1_add 20 = .ok (.getfield 28, 3) := by decide +kernel
theorem dX1_add_23 : decode cX1_add 23 = .ok (.iload_n 1, 1) := by decide +kernel
theorem dX1_add_24 : decode cX1_add 24 = .ok (.aaload, 1) := by decide +kernel
theorem dX1_add_25 : decode cX1_add 25 = .ok (.iload_n 2, 1) := by decide +kernel
theorem dX1_add_26 : decode cX1_add 26 = .ok (.laload, 1) := by decide +kernel
theorem dX1_add_27 : decode cX1_add 27 = .ok (.lconst 0, 1) := by decide +kernel
theorem dX1_add_28 : decode cX1_add 28 = .ok (.lcmp, 1) := by decide +kernel
theorem dX1_add_29 : decode cX1_add 29 = .ok (.ifCond .ne 49, 3) := by decide +kernel
theorem dX1_add_32 : decode cX1_add 32 = .ok (.aload_n 0, 1) := by decide +kernel
theorem dX1_add_33 : decode cX1_add 33 = .ok (.getfield 36, 3) := by decide +kernel
theorem dX1_add_36 : decode cX1_add 36 = .ok (.iload_n 1, 1) := by decide +kernel
theorem dX1_add_37 : decode cX1_add 37 = .ok (.iaload, 1) := by decide +kernel
theorem dX1_add_38 : decode cX1_add 38 = .ok (.sipush 3000, 3) := by decide +kernel
theorem dX1_add_41 : decode cX1_add 41 = .ok (.if_icmp .ge 37, 3) := by decide +kernel
theorem dX1_add_44 : decode cX1_add 44 = .ok (.aload_n 0, 1) := by decide +kernel
theorem dX1_add_45 : decode cX1_add 45 = .ok (.getfield 33, 3) := by decide +kernel
theorem dX1_add_48 : decode cX1_add 48 = .ok (.iload_n 1, 1) := by decide +kernel
theorem dX1_add_49 : decode cX1_add 49 = .ok (.aaload, 1) := by decide +kernel
theorem dX1_add_50 : decode cX1_add 50 = .ok (.aload_n 0, 1) := by decide +kernel
theorem dX1_add_51 : decode cX1_add 51 = .ok (.getfield 36, 3) := by decide +kernel
theorem dX1_add_54 : decode cX1_add 54 = .ok (.iload_n 1, 1) := by decide +kernel
theorem dX1_add_55 : decode cX1_add 55 = .ok (.iaload, 1) := by decide +kernel
theorem dX1_add_56 : decode cX1_add 56 = .ok (.iload_n 2, 1) := by decide +kernel
theorem dX1_add_57 : decode cX1_add 57 = .ok (.iastore, 1) := by decide +kernel
theorem dX1_add_58 : decode cX1_add 58 = .ok (.aload_n 0, 1) := by decide +kernel
theorem dX1_add_59 : decode cX1_add 59 = .ok (.getfield 36, 3) := by decide +kernel
theorem dX1_add_62 : decode cX1_add 62 = .ok (.iload_n 1, 1) := by decide +kernel
theorem dX1_add_63 : decode cX1_add 63 = .ok (.dup2, 1) := by decide +kernel
theorem dX1_add_64 : decode cX1_add 64 = .ok (.iaload, 1) := by decide +kernel
theorem dX1_add_65 : decode cX1_add 65 = .ok (.iconst 1, 1) := by decide +kernel
theorem dX1_add_66 : decode cX1_add 66 = .ok (.iadd, 1) := by decide +kernel
theorem dX1_add_67 : decode cX1_add 67 = .ok (.iastore, 1) := by decide +kernel
theorem dX1_add_68 : decode cX1_add 68 = .ok (.aload_n 0, 1) := by decide +kernel
theorem dX1_add_69 : decode cX1_add 69 = .ok (.getfield 39, 3) := by decide +kernel
theorem dX1_add_72 : decode cX1_add 72 = .ok (.iload_n 2, 1) := by decide +kernel
theorem dX1_add_73 : decode cX1_add 73 = .ok (.dup2, 1) := by decide +kernel
theorem dX1_add_74 : decode cX1_add 74 = .ok (.iaload, 1) := by decide +kernel
theorem dX1_add_75 : decode cX1_add 75 = .ok (.iconst 1, 1) := by decide +kernel
theorem dX1_add_76 : decode cX1_add 76 = .ok (.iadd, 1) := by decide +kernel
theorem dX1_add_77 : decode cX1_add 77 = .ok (.iastore, 1) := by decide +kernel
theorem dX1_add_78 : decode cX1_add 78 = .ok (.aload_n 0, 1) := by decide +kernel
theorem dX1_add_79 : decode cX1_add 79 = .ok (.getfield 28, 3) := by decide +kernel
theorem dX1_add_82 : decode cX1_add 82 = .ok (.iload_n 1, 1) := by decide +kernel
theorem dX1_add_83 : decode cX1_add 83 = .ok (.aaload, 1) := by decide +kernel
theorem dX1_add_84 : decode cX1_add 84 = .ok (.iload_n 2, 1) := by decide +kernel
theorem dX1_add_85 : decode cX1_add 85 = .ok (.dup2, 1) := by decide +kernel
theorem dX1_add_86 : decode cX1_add 86 = .ok (.laload, 1) := by decide +kernel
theorem dX1_add_87 : decode cX1_add 87 = .ok (.lload_n 3, 1) := by decide +kernel
theorem dX1_add_88 : decode cX1_add 88 = .ok (.ladd, 1) := by decide +kernel
theorem dX1_add_89 : decode cX1_add 89 = .ok (.lastore, 1) := by decide +kernel
theorem dX1_add_90 : decode cX1_add 90 = .ok (.return_, 1) := by decide +kernel
theorem dX1_reaches_0 : decode cX1_reaches 0 = .ok (.iload_n 1, 1) := by decide +kernel
theorem dX1_reaches_1 : decode cX1_reaches 1 = .ok (.iconst 1, 1) := by decide +kernel
theorem dX1_reaches_2 : decode cX1_reaches 2 = .ok (.if_icmp .lt 23, 3) := by decide +kernel
theorem dX1_reaches_5 : decode cX1_reaches 5 = .ok (.iload_n 1, 1) := by decide +kernel
theorem dX1_reaches_6 : decode cX1_reaches 6 = .ok (.sipush 3000, 3) := by decide +kernel
theorem dX1_reaches_9 : decode cX1_reaches 9 = .ok (.if_icmp .gt 16, 3) := by decide +kernel
theorem dX1_reaches_12 : decode cX1_reaches 12 = .ok (.aload_n 0, 1) := by decide +kernel
theorem dX1_reaches_13 : decode cX1_reaches 13 = .ok (.getfield 39, 3) := by decide +kernel
theorem dX1_reaches_16 : decode cX1_reaches 16 = .ok (.iload_n 1, 1) := by decide +kernel
theorem dX1_reaches_17 : decode cX1_reaches 17 = .ok (.iaload, 1) := by decide +kernel
theorem dX1_reaches_18 : decode cX1_reaches 18 = .ok (.ifCond .le 7, 3) := by decide +kernel
theorem dX1_reaches_21 : decode cX1_reaches 21 = .ok (.iconst 1, 1) := by decide +kernel
theorem dX1_reaches_22 : decode cX1_reaches 22 = .ok (.goto 4, 3) := by decide +kernel
theorem dX1_reaches_25 : decode cX1_reaches 25 = .ok (.iconst 0, 1) := by decide +kernel
theorem dX1_reaches_26 : decode cX1_reaches 26 = .ok (.ireturn, 1) := by decide +kernel
theorem dX1_countOf_0 : decode cX1_countOf 0 = .ok (.iload_n 1, 1) := by decide +kernel
theorem dX1_countOf_1 : decode cX1_countOf 1 = .ok (.iconst 1, 1) := by decide +kernel
theorem dX1_countOf_2 : decode cX1_countOf 2 = .ok (.if_icmp .lt 24, 3) := by decide +kernel
theorem dX1_countOf_5 : decode cX1_countOf 5 = .ok (.iload_n 1, 1) := by decide +kernel
theorem dX1_countOf_6 : decode cX1_countOf 6 = .ok (.aload_n 0, 1) := by decide +kernel
theorem dX1_countOf_7 : decode cX1_countOf 7 = .ok (.getfield 28, 3) := by decide +kernel
theorem dX1_countOf_10 : decode cX1_countOf 10 = .ok (.arraylength, 1) := by decide +kernel
theorem dX1_countOf_11 : decode cX1_countOf 11 = .ok (.if_icmp .ge 15, 3) := by decide +kernel
theorem dX1_countOf_14 : decode cX1_countOf 14 = .ok (.iload_n 2, 1) := by decide +kernel
theorem dX1_countOf_15 : decode cX1_countOf 15 = .ok (.iconst 1, 1) := by decide +kernel
theorem dX1_countOf_16 : decode cX1_countOf 16 = .ok (.if_icmp .lt 10, 3) := by decide +kernel
theorem dX1_countOf_19 : decode cX1_countOf 19 = .ok (.iload_n 2, 1) := by decide +kernel
theorem dX1_countOf_20 : decode cX1_countOf 20 = .ok (.sipush 3000, 3) := by decide +kernel
theorem dX1_countOf_23 : decode cX1_countOf 23 = .ok (.if_icmp .le 5, 3) := by decide +kernel
theorem dX1_countOf_26 : decode cX1_countOf 26 = .ok (.lconst 0, 1) := by decide +kernel
theorem dX1_countOf_27 : decode cX1_countOf 27 = .ok (.lreturn, 1) := by decide +kernel
theorem dX1_countOf_28 : decode cX1_countOf 28 = .ok (.aload_n 0, 1) := by decide +kernel
theorem dX1_countOf_29 : decode cX1_countOf 29 = .ok (.getfield 28, 3) := by decide +kernel
theorem dX1_countOf_32 : decode cX1_countOf 32 = .ok (.iload_n 1, 1) := by decide +kernel
theorem dX1_countOf_33 : decode cX1_countOf 33 = .ok (.aaload, 1) := by decide +kernel
theorem dX1_countOf_34 : decode cX1_countOf 34 = .ok (.iload_n 2, 1) := by decide +kernel
theorem dX1_countOf_35 : decode cX1_countOf 35 = .ok (.laload, 1) := by decide +kernel
theorem dX1_countOf_36 : decode cX1_countOf 36 = .ok (.lreturn, 1) := by decide +kernel
set_option maxRecDepth 20000 in
theorem ggX1_countOfAllSets_X1_countOf : GoodIn wsX1_countOfAllSets wsX1_countOf := goodIn_r _ [6, 1, 7, 8, 9, 10, 11, 12, 13, 14] (by decide +kernel) (by decide +kernel)
set_option maxRecDepth 20000 in
theorem gX1_countOfAllSets_X1_countOf : GoodIn wsX1_countOfAllSets (wsV RX1 82 RX1 yX1_countOf wsX1_countOf) := goodIn_app (goodIn_of _ (by decide +kernel)) ggX1_countOfAllSets_X1_countOf
theorem dX1_countOfAllSets_0 : decode cX1_countOfAllSets 0 = .ok (.lconst 0, 1) := by decide +kernel
theorem dX1_countOfAllSets_1 : decode cX1_countOfAllSets 1 = .ok (.lstore_n 2, 1) := by decide +kernel
theorem dX1_countOfAllSets_2 : decode cX1_countOfAllSets 2 = .ok (.iconst 1, 1) := by decide +kernel
theorem dX1_countOfAllSets_3 : decode cX1_countOfAllSets 3 = .ok (.istore 4, 2) := by decide +kernel
theorem dX1_countOfAllSets_5 : decode cX1_countOfAllSets 5 = .ok (.iload 4, 2) := by decide +kernel
theorem dX1_countOfAllSets_7 : decode cX1_countOfAllSets 7 = .ok (.aload_n 0, 1) := by decide +kernel
theorem dX1_countOfAllSets_8 : decode cX1_countOfAllSets 8 = .ok (.getfield 28, 3) := by decide +kernel
theorem dX1_countOfAllSets_11 : decode cX1_countOfAllSets 11 = .ok (.arraylength, 1) := by decide +kernel
theorem dX1_countOfAllSets_12 : decode cX1_countOfAllSets 12 = .ok (.if_icmp .ge 19, 3) := by decide +kernel
theorem dX1_countOfAllSets_15 : decode cX1_countOfAllSets 15 = .ok (.lload_n 2, 1) := by decide +kernel
theorem dX1_countOfAllSets_16 : decode cX1_countOfAllSets 16 = .ok (.aload_n 0, 1) := by decide +kernel
theorem dX1_countOfAllSets_17 : decode cX1_countOfAllSets 17 = .ok (.iload 4, 2) := by decide +kernel
theorem dX1_countOfAllSets_19 : decode cX1_countOfAllSets 19 = .ok (.iload_n 1, 1) := by decide +kernel
theorem dX1_countOfAllSets_20 : decode cX1_countOfAllSets 20 = .ok (.invokevirtual 82, 3) := by decide +kernel
theorem dX1_countOfAllSets_23 : decode cX1_countOfAllSets 23 = .ok (.ladd, 1) := by decide +kernel
theorem dX1_countOfAllSets_24 : decode cX1_countOfAllSets 24 = .ok (.lstore_n 2, 1) := by decide +kernel
theorem dX1_countOfAllSets_25 : decode cX1_countOfAllSets 25 = .ok (.iinc 4 1, 3) := by decide +kernel
theorem dX1_countOfAllSets_28 : decode cX1_countOfAllSets 28 = .ok (.goto (-23), 3) := by decide +kernel
theorem dX1_countOfAllSets_31 : decode cX1_countOfAllSets 31 = .ok (.lload_n 2, 1) := by decide +kernel
theorem dX1_countOfAllSets_32 : decode cX1_countOfAllSets 32 = .ok (.lreturn, 1) := by decide +kernel
set_option maxRecDepth 20000 in
theorem ggX1_has_X1_reaches : GoodIn wsX1_has wsX1_reaches := goodIn_r _ [5, 6, 12, 13, 14, 15, 16, 17, 18, 19] (by decide +kernel) (by decide +kernel)
set_option maxRecDepth 20000 in
theorem gX1_has_X1_reaches : GoodIn wsX1_has (wsV RX1 86 RX1 yX1_reaches wsX1_reaches) := goodIn_app (goodIn_of _ (by decide +kernel)) ggX1_has_X1_reaches
set_option maxRecDepth 20000 in
theorem ggX1_has_X1_countOf : GoodIn wsX1_has wsX1_countOf := goodIn_r _ [10, 11, 12, 13, 14, 15, 16, 17, 18, 19] (by decide +kernel) (by decide +kernel)
set_option maxRecDepth 20000 in
theorem gX1_has_X1_countOf : GoodIn wsX1_has (wsV RX1 82 RX1 yX1_countOf wsX1_countOf) := goodIn_app (goodIn_of _ (by decide +kernel)) ggX1_has_X1_countOf
theorem dX1_has_0 : decode cX1_has 0 = .ok (.iload_n 1, 1) := by decide +kernel
theorem dX1_has_1 : decode cX1_has 1 = .ok (.ifCond .ne 11, 3) := by decide +kernel
theorem dX1_has_4 : decode cX1_has 4 = .ok (.aload_n 0, 1) := by decide +kernel
theorem dX1_has_5 : decode cX1_has 5 = .ok (.iload_n 2, 1) := by decide +kernel
theorem dX1_has_6 : decode cX1_has 6 = .ok (.invokevirtual 86, 3) := by decide +kernel
theorem dX1_has_9 : decode cX1_has 9 = .ok (.goto 19, 3) := by decide +kernel
theorem dX1_has_12 : decode cX1_has 12 = .ok (.aload_n 0, 1) := by decide +kernel
theorem dX1_has_13 : decode cX1_has 13 = .ok (.iload_n 1, 1) := by decide +kernel
theorem dX1_has_14 : decode cX1_has 14 = .ok (.iload_n 2, 1) := by decide +kernel
theorem dX1_has_15 : decode cX1_has 15 = .ok (.invokevirtual 82, 3) := by decide +kernel
theorem dX1_has_18 : decode cX1_has 18 = .ok (.lconst 0, 1) := by decide +kernel
theorem dX1_has_19 : decode cX1_has 19 = .ok (.lcmp, 1) := by decide +kernel
theorem dX1_has_20 : decode cX1_has 20 = .ok (.ifCond .le 7, 3) := by decide +kernel
theorem dX1_has_23 : decode cX1_has 23 = .ok (.iconst 1, 1) := by decide +kernel
theorem dX1_has_24 : decode cX1_has 24 = .ok (.goto 4, 3) := by decide +kernel
theorem dX1_has_27 : decode cX1_has 27 = .ok (.iconst 0, 1) := by decide +kernel
theorem dX1_has_28 : decode cX1_has 28 = .ok (.ireturn, 1) := by decide +kernel
set_option maxRecDepth 20000 in
theorem ggX1_numbersOf_X1_has : GoodIn wsX1_numbersOf wsX1_has := goodIn_r _ [5, 6, 7, 8, 4, 9, 10, 11, 12, 13, 14, 15, 16, 17, 18, 19, 20, 21, 22, 23] (by decide +kernel) (by decide +kernel)
set_option maxRecDepth 20000 in
theorem gX1_numbersOf_X1_has : GoodIn wsX1_numbersOf (wsV RX1 89 RX1 yX1_has wsX1_has) := goodIn_app (goodIn_of _ (by decide +kernel)) ggX1_numbersOf_X1_has
theorem dX1_numbersOf_0 : decode cX1_numbersOf 0 = .ok (.iconst 0, 1) := by decide +kernel
theorem dX1_numbersOf_1 : decode cX1_numbersOf 1 = .ok (.istore_n 2, 1) := by decide +kernel
theorem dX1_numbersOf_2 : decode cX1_numbersOf 2 = .ok (.iconst 1, 1) := by decide +kernel
theorem dX1_numbersOf_3 : decode cX1_numbersOf 3 = .ok (.istore_n 3, 1) := by decide +kernel
theorem dX1_numbersOf_4 : decode cX1_numbersOf 4 = .ok (.iload_n 3, 1) := by decide +kernel
theorem dX1_numbersOf_5 : decode cX1_numbersOf 5 = .ok (.sipush 3000, 3) := by decide +kernel
theorem dX1_numbersOf_8 : decode cX1_numbersOf 8 = .ok (.if_icmp .gt 21, 3) := by decide +kernel
theorem dX1_numbersOf_11 : decode cX1_numbersOf 11 = .ok (.aload_n 0, 1) := by decide +kernel
theorem dX1_numbersOf_12 : decode cX1_numbersOf 12 = .ok (.iload_n 1, 1) := by decide +kernel
theorem dX1_numbersOf_13 : decode cX1_numbersOf 13 = .ok (.iload_n 3, 1) := by decide +kernel
theorem dX1_numbersOf_14 : decode cX1_numbersOf 14 = .ok (.invokevirtual 89, 3) := by decide +kernel
theorem dX1_numbersOf_17 : decode cX1_numbersOf 17 = .ok (.ifCond .eq 6, 3) := by decide +kernel
theorem dX1_numbersOf_20 : decode cX1_numbersOf 20 = .ok (.iinc 2 1, 3) := by decide +kernel
theorem dX1_numbersOf_23 : decode cX1_numbersOf 23 = .ok (.iinc 3 1, 3) := by decide +kernel
theorem dX1_numbersOf_26 : decode cX1_numbersOf 26 = .ok (.goto (-22), 3) := by decide +kernel
theorem dX1_numbersOf_29 : decode cX1_numbersOf 29 = .ok (.iload_n 2, 1) := by decide +kernel
theorem dX1_numbersOf_30 : decode cX1_numbersOf 30 = .ok (.ireturn, 1) := by decide +kernel
set_option maxRecDepth 20000 in
theorem ggX1_numberAt_X1_has : GoodIn wsX1_numberAt wsX1_has := goodIn_r _ [5, 6, 7, 8, 4, 9, 10, 11, 12, 13, 14, 15, 16, 17, 18, 19, 20, 21, 22, 23] (by decide +kernel) (by decide +kernel)
set_option maxRecDepth 20000 in
theorem gX1_numberAt_X1_has : GoodIn wsX1_numberAt (wsV RX1 89 RX1 yX1_has wsX1_has) := goodIn_app (goodIn_of _ (by decide +kernel)) ggX1_numberAt_X1_has
theorem dX1_numberAt_0 : decode cX1_numberAt 0 = .ok (.iconst 0, 1) := by decide +kernel
theorem dX1_numberAt_1 : decode cX1_numberAt 1 = .ok (.istore_n 3, 1) := by decide +kernel
theorem dX1_numberAt_2 : decode cX1_numberAt 2 = .ok (.iconst 1, 1) := by decide +kernel
theorem dX1_numberAt_3 : decode cX1_numberAt 3 = .ok (.istore 4, 2) := by decide +kernel
theorem dX1_numberAt_5 : decode cX1_numberAt 5 = .ok (.iload 4, 2) := by decide +kernel
theorem dX1_numberAt_7 : decode cX1_numberAt 7 = .ok (.sipush 3000, 3) := by decide +kernel
theorem dX1_numberAt_10 : decode cX1_numberAt 10 = .ok (.if_icmp .gt 30, 3) := by decide +kernel
theorem dX1_numberAt_13 : decode cX1_numberAt 13 = .ok (.aload_n 0, 1) := by decide +kernel
theorem dX1_numberAt_14 : decode cX1_numberAt 14 = .ok (.iload_n 1, 1) := by decide +kernel
theorem dX1_numberAt_15 : decode cX1_numberAt 15 = .ok (.iload 4, 2) := by decide +kernel
theorem dX1_numberAt_17 : decode cX1_numberAt 17 = .ok (.invokevirtual 89, 3) := by decide +kernel
theorem dX1_numberAt_20 : decode cX1_numberAt 20 = .ok (.ifCond .eq 14, 3) := by decide +kernel
theorem dX1_numberAt_23 : decode cX1_numberAt 23 = .ok (.iload_n 3, 1) := by decide +kernel
theorem dX1_numberAt_24 : decode cX1_numberAt 24 = .ok (.iload_n 2, 1) := by decide +kernel
theorem dX1_numberAt_25 : decode cX1_numberAt 25 = .ok (.if_icmp .ne 6, 3) := by decide +kernel
theorem dX1_numberAt_28 : decode cX1_numberAt 28 = .ok (.iload 4, 2) := by decide +kernel
theorem dX1_numberAt_30 : decode cX1_numberAt 30 = .ok (.ireturn, 1) := by decide +kernel
theorem dX1_numberAt_31 : decode cX1_numberAt 31 = .ok (.iinc 3 1, 3) := by decide +kernel
theorem dX1_numberAt_34 : decode cX1_numberAt 34 = .ok (.iinc 4 1, 3) := by decide +kernel
theorem dX1_numberAt_37 : decode cX1_numberAt 37 = .ok (.goto (-32), 3) := by decide +kernel
theorem dX1_numberAt_40 : decode cX1_numberAt 40 = .ok (.iconst (-1), 1) := by decide +kernel
theorem dX1_numberAt_41 : decode cX1_numberAt 41 = .ok (.ireturn, 1) := by decide +kernel
set_option maxRecDepth 20000 in
theorem ggX1_leastNotReached_X1_reaches : GoodIn wsX1_leastNotReached wsX1_reaches := goodIn_r _ [5, 6, 7, 8, 9, 10, 11, 12, 13, 14] (by decide +kernel) (by decide +kernel)
set_option maxRecDepth 20000 in
theorem gX1_leastNotReached_X1_reaches : GoodIn wsX1_leastNotReached (wsV RX1 86 RX1 yX1_reaches wsX1_reaches) := goodIn_app (goodIn_of _ (by decide +kernel)) ggX1_leastNotReached_X1_reaches
theorem dX1_leastNotReached_0 : decode cX1_leastNotReached 0 = .ok (.iconst 1, 1) := by decide +kernel
theorem dX1_leastNotReached_1 : decode cX1_leastNotReached 1 = .ok (.istore_n 1, 1) := by decide +kernel
theorem dX1_leastNotReached_2 : decode cX1_leastNotReached 2 = .ok (.iload_n 1, 1) := by decide +kernel
theorem dX1_leastNotReached_3 : decode cX1_leastNotReached 3 = .ok (.sipush 3000, 3) := by decide +kernel
theorem dX1_leastNotReached_6 : decode cX1_leastNotReached 6 = .ok (.if_icmp .gt 19, 3) := by decide +kernel
theorem dX1_leastNotReached_9 : decode cX1_leastNotReached 9 = .ok (.aload_n 0, 1) := by decide +kernel
theorem dX1_leastNotReached_10 : decode cX1_leastNotReached 10 = .ok (.iload_n 1, 1) := by decide +kernel
theorem dX1_leastNotReached_11 : decode cX1_leastNotReached 11 = .ok (.invokevirtual 86, 3) := by decide +kernel
theorem dX1_leastNotReached_14 : decode cX1_leastNotReached 14 = .ok (.ifCond .ne 5, 3) := by decide +kernel
theorem dX1_leastNotReached_17 : decode cX1_leastNotReached 17 = .ok (.iload_n 1, 1) := by decide +kernel
theorem dX1_leastNotReached_18 : decode cX1_leastNotReached 18 = .ok (.ireturn, 1) := by decide +kernel
theorem dX1_leastNotReached_19 : decode cX1_leastNotReached 19 = .ok (.iinc 1 1, 3) := by decide +kernel
theorem dX1_leastNotReached_22 : decode cX1_leastNotReached 22 = .ok (.goto (-20), 3) := by decide +kernel
theorem dX1_leastNotReached_25 : decode cX1_leastNotReached 25 = .ok (.sipush 3001, 3) := by decide +kernel
theorem dX1_leastNotReached_28 : decode cX1_leastNotReached 28 = .ok (.ireturn, 1) := by decide +kernel
set_option maxRecDepth 20000 in
theorem ggX1_firstSet_X1_countOf : GoodIn wsX1_firstSet wsX1_countOf := goodIn_r _ [6, 1, 14, 15, 16, 17, 18, 19, 20, 21] (by decide +kernel) (by decide +kernel)
set_option maxRecDepth 20000 in
theorem gX1_firstSet_X1_countOf : GoodIn wsX1_firstSet (wsV RX1 82 RX1 yX1_countOf wsX1_countOf) := goodIn_app (goodIn_of _ (by decide +kernel)) ggX1_firstSet_X1_countOf
set_option maxRecDepth 20000 in
theorem ggX1_firstSet_J6_bitCount_0f7a4 : GoodIn wsX1_firstSet wsJ6_bitCount_0f7a4 := goodIn_r _ [10, 11, 12, 13] (by decide +kernel) (by decide +kernel)
set_option maxRecDepth 20000 in
theorem gX1_firstSet_J6_bitCount_0f7a4 : GoodIn wsX1_firstSet (va_wsS RX1 93 yJ6_bitCount_0f7a4 wsJ6_bitCount_0f7a4) := goodIn_app (goodIn_of _ (by decide +kernel)) ggX1_firstSet_J6_bitCount_0f7a4
theorem dX1_firstSet_0 : decode cX1_firstSet 0 = .ok (.iconst (-1), 1) := by decide +kernel
theorem dX1_firstSet_1 : decode cX1_firstSet 1 = .ok (.istore_n 2, 1) := by decide +kernel
theorem dX1_firstSet_2 : decode cX1_firstSet 2 = .ok (.bipush 7, 2) := by decide +kernel
theorem dX1_firstSet_4 : decode cX1_firstSet 4 = .ok (.istore_n 3, 1) := by decide +kernel
theorem dX1_firstSet_5 : decode cX1_firstSet 5 = .ok (.iconst 1, 1) := by decide +kernel
theorem dX1_firstSet_6 : decode cX1_firstSet 6 = .ok (.istore 4, 2) := by decide +kernel
theorem dX1_firstSet_8 : decode cX1_firstSet 8 = .ok (.iload 4, 2) := by decide +kernel
theorem dX1_firstSet_10 : decode cX1_firstSet 10 = .ok (.aload_n 0, 1) := by decide +kernel
theorem dX1_firstSet_11 : decode cX1_firstSet 11 = .ok (.getfield 28, 3) := by decide +kernel
theorem dX1_firstSet_14 : decode cX1_firstSet 14 = .ok (.arraylength, 1) := by decide +kernel
end
section
theorem dX1_firstSet_15 : decode cX1_firstSet 15 = .ok (.if_icmp .ge 39, 3) := by decide +kernel
theorem dX1_firstSet_18 : decode cX1_firstSet 18 = .ok (.aload_n 0, 1) := by decide +kernel
theorem dX1_firstSet_19 : decode cX1_firstSet 19 = .ok (.iload 4, 2) := by decide +kernel
theorem dX1_firstSet_21 : decode cX1_firstSet 21 = .ok (.iload_n 1, 1) := by decide +kernel
theorem dX1_firstSet_22 : decode cX1_firstSet 22 = .ok (.invokevirtual 82, 3) := by decide +kernel
theorem dX1_firstSet_25 : decode cX1_firstSet 25 = .ok (.lconst 0, 1) := by decide +kernel
theorem dX1_firstSet_26 : decode cX1_firstSet 26 = .ok (.lcmp, 1) := by decide +kernel
theorem dX1_firstSet_27 : decode cX1_firstSet 27 = .ok (.ifCond .le 21, 3) := by decide +kernel
theorem dX1_firstSet_30 : decode cX1_firstSet 30 = .ok (.iload 4, 2) := by decide +kernel
theorem dX1_firstSet_32 : decode cX1_firstSet 32 = .ok (.invokestatic 93, 3) := by decide +kernel
theorem dX1_firstSet_35 : decode cX1_firstSet 35 = .ok (.iload_n 3, 1) := by decide +kernel
theorem dX1_firstSet_36 : decode cX1_firstSet 36 = .ok (.if_icmp .ge 12, 3) := by decide +kernel
theorem dX1_firstSet_39 : decode cX1_firstSet 39 = .ok (.iload 4, 2) := by decide +kernel
theorem dX1_firstSet_41 : decode cX1_firstSet 41 = .ok (.istore_n 2, 1) := by decide +kernel
theorem dX1_firstSet_42 : decode cX1_firstSet 42 = .ok (.iload 4, 2) := by decide +kernel
theorem dX1_firstSet_44 : decode cX1_firstSet 44 = .ok (.invokestatic 93, 3) := by decide +kernel
theorem dX1_firstSet_47 : decode cX1_firstSet 47 = .ok (.istore_n 3, 1) := by decide +kernel
theorem dX1_firstSet_48 : decode cX1_firstSet 48 = .ok (.iinc 4 1, 3) := by decide +kernel
theorem dX1_firstSet_51 : decode cX1_firstSet 51 = .ok (.goto (-43), 3) := by decide +kernel
theorem dX1_firstSet_54 : decode cX1_firstSet 54 = .ok (.iload_n 2, 1) := by decide +kernel
theorem dX1_firstSet_55 : decode cX1_firstSet 55 = .ok (.ireturn, 1) := by decide +kernel
set_option maxRecDepth 20000 in
theorem ggX1_nearest_X1_reaches : GoodIn wsX1_nearest wsX1_reaches := goodIn_r _ [5, 6, 7, 8, 9, 10, 11, 12, 13, 14] (by decide +kernel) (by decide +kernel)
set_option maxRecDepth 20000 in
theorem gX1_nearest_X1_reaches : GoodIn wsX1_nearest (wsV RX1 86 RX1 yX1_reaches wsX1_reaches) := goodIn_app (goodIn_of _ (by decide +kernel)) ggX1_nearest_X1_reaches
theorem dX1_nearest_0 : decode cX1_nearest 0 = .ok (.iconst 0, 1) := by decide +kernel
theorem dX1_nearest_1 : decode cX1_nearest 1 = .ok (.istore_n 2, 1) := by decide +kernel
theorem dX1_nearest_2 : decode cX1_nearest 2 = .ok (.iload_n 2, 1) := by decide +kernel
theorem dX1_nearest_3 : decode cX1_nearest 3 = .ok (.sipush 3000, 3) := by decide +kernel
theorem dX1_nearest_6 : decode cX1_nearest 6 = .ok (.if_icmp .gt 37, 3) := by decide +kernel
theorem dX1_nearest_9 : decode cX1_nearest 9 = .ok (.aload_n 0, 1) := by decide +kernel
theorem dX1_nearest_10 : decode cX1_nearest 10 = .ok (.iload_n 1, 1) := by decide +kernel
theorem dX1_nearest_11 : decode cX1_nearest 11 = .ok (.iload_n 2, 1) := by decide +kernel
theorem dX1_nearest_12 : decode cX1_nearest 12 = .ok (.isub, 1) := by decide +kernel
theorem dX1_nearest_13 : decode cX1_nearest 13 = .ok (.invokevirtual 86, 3) := by decide +kernel
theorem dX1_nearest_16 : decode cX1_nearest 16 = .ok (.ifCond .eq 7, 3) := by decide +kernel
theorem dX1_nearest_19 : decode cX1_nearest 19 = .ok (.iload_n 1, 1) := by decide +kernel
theorem dX1_nearest_20 : decode cX1_nearest 20 = .ok (.iload_n 2, 1) := by decide +kernel
theorem dX1_nearest_21 : decode cX1_nearest 21 = .ok (.isub, 1) := by decide +kernel
theorem dX1_nearest_22 : decode cX1_nearest 22 = .ok (.ireturn, 1) := by decide +kernel
theorem dX1_nearest_23 : decode cX1_nearest 23 = .ok (.aload_n 0, 1) := by decide +kernel
theorem dX1_nearest_24 : decode cX1_nearest 24 = .ok (.iload_n 1, 1) := by decide +kernel
theorem dX1_nearest_25 : decode cX1_nearest 25 = .ok (.iload_n 2, 1) := by decide +kernel
theorem dX1_nearest_26 : decode cX1_nearest 26 = .ok (.iadd, 1) := by decide +kernel
theorem dX1_nearest_27 : decode cX1_nearest 27 = .ok (.invokevirtual 86, 3) := by decide +kernel
theorem dX1_nearest_30 : decode cX1_nearest 30 = .ok (.ifCond .eq 7, 3) := by decide +kernel
theorem dX1_nearest_33 : decode cX1_nearest 33 = .ok (.iload_n 1, 1) := by decide +kernel
theorem dX1_nearest_34 : decode cX1_nearest 34 = .ok (.iload_n 2, 1) := by decide +kernel
theorem dX1_nearest_35 : decode cX1_nearest 35 = .ok (.iadd, 1) := by decide +kernel
theorem dX1_nearest_36 : decode cX1_nearest 36 = .ok (.ireturn, 1) := by decide +kernel
theorem dX1_nearest_37 : decode cX1_nearest 37 = .ok (.iinc 2 1, 3) := by decide +kernel
theorem dX1_nearest_40 : decode cX1_nearest 40 = .ok (.goto (-38), 3) := by decide +kernel
theorem dX1_nearest_43 : decode cX1_nearest 43 = .ok (.iconst (-1), 1) := by decide +kernel
theorem dX1_nearest_44 : decode cX1_nearest 44 = .ok (.ireturn, 1) := by decide +kernel
set_option maxRecDepth 20000 in
theorem ggX1_leastLeftNumber_X3_allow : GoodIn wsX1_leastLeftNumber wsX3_allow := goodIn_r _ [8, 9, 27, 28] (by decide +kernel) (by decide +kernel)
set_option maxRecDepth 20000 in
theorem gX1_leastLeftNumber_X3_allow : GoodIn wsX1_leastLeftNumber (wsV RX1 70 RX3 yX3_allow wsX3_allow) := goodIn_app (goodIn_of _ (by decide +kernel)) ggX1_leastLeftNumber_X3_allow
set_option maxRecDepth 20000 in
theorem ggX1_leastLeftNumber_X5_rightNumber : GoodIn wsX1_leastLeftNumber wsX5_rightNumber := goodIn_r _ [12] (by decide +kernel) (by decide +kernel)
set_option maxRecDepth 20000 in
theorem gX1_leastLeftNumber_X5_rightNumber_n98 : GoodIn wsX1_leastLeftNumber (wsX5_rightNumber) := ggX1_leastLeftNumber_X5_rightNumber
set_option maxRecDepth 20000 in
theorem ggX1_leastLeftNumber_X1_countOf : GoodIn wsX1_leastLeftNumber wsX1_countOf := goodIn_r _ [17, 18, 19, 20, 21, 22, 23, 24, 25, 26] (by decide +kernel) (by decide +kernel)
set_option maxRecDepth 20000 in
theorem gX1_leastLeftNumber_X1_countOf : GoodIn wsX1_leastLeftNumber (wsV RX1 82 RX1 yX1_countOf wsX1_countOf) := goodIn_app (goodIn_of _ (by decide +kernel)) ggX1_leastLeftNumber_X1_countOf
theorem dX1_leastLeftNumber_0 : decode cX1_leastLeftNumber 0 = .ok (.iload_n 2, 1) := by decide +kernel
theorem dX1_leastLeftNumber_1 : decode cX1_leastLeftNumber 1 = .ok (.iload_n 1, 1) := by decide +kernel
theorem dX1_leastLeftNumber_2 : decode cX1_leastLeftNumber 2 = .ok (.iand, 1) := by decide +kernel
theorem dX1_leastLeftNumber_3 : decode cX1_leastLeftNumber 3 = .ok (.iload_n 1, 1) := by decide +kernel
theorem dX1_leastLeftNumber_4 : decode cX1_leastLeftNumber 4 = .ok (.ineg, 1) := by decide +kernel
theorem dX1_leastLeftNumber_5 : decode cX1_leastLeftNumber 5 = .ok (.iand, 1) := by decide +kernel
theorem dX1_leastLeftNumber_6 : decode cX1_leastLeftNumber 6 = .ok (.ifCond .eq 7, 3) := by decide +kernel
theorem dX1_leastLeftNumber_9 : decode cX1_leastLeftNumber 9 = .ok (.iconst 1, 1) := by decide +kernel
theorem dX1_leastLeftNumber_10 : decode cX1_leastLeftNumber 10 = .ok (.goto 4, 3) := by decide +kernel
theorem dX1_leastLeftNumber_13 : decode cX1_leastLeftNumber 13 = .ok (.iconst 0, 1) := by decide +kernel
theorem dX1_leastLeftNumber_14 : decode cX1_leastLeftNumber 14 = .ok (.istore 5, 2) := by decide +kernel
theorem dX1_leastLeftNumber_16 : decode cX1_leastLeftNumber 16 = .ok (.iload_n 3, 1) := by decide +kernel
theorem dX1_leastLeftNumber_17 : decode cX1_leastLeftNumber 17 = .ok (.ifCond .eq 8, 3) := by decide +kernel
theorem dX1_leastLeftNumber_20 : decode cX1_leastLeftNumber 20 = .ok (.iload_n 3, 1) := by decide +kernel
theorem dX1_leastLeftNumber_21 : decode cX1_leastLeftNumber 21 = .ok (.iconst 2, 1) := by decide +kernel
theorem dX1_leastLeftNumber_22 : decode cX1_leastLeftNumber 22 = .ok (.if_icmp .ne 7, 3) := by decide +kernel
theorem dX1_leastLeftNumber_25 : decode cX1_leastLeftNumber 25 = .ok (.iconst 1, 1) := by decide +kernel
theorem dX1_leastLeftNumber_26 : decode cX1_leastLeftNumber 26 = .ok (.goto 4, 3) := by decide +kernel
theorem dX1_leastLeftNumber_29 : decode cX1_leastLeftNumber 29 = .ok (.iconst 0, 1) := by decide +kernel
theorem dX1_leastLeftNumber_30 : decode cX1_leastLeftNumber 30 = .ok (.istore 6, 2) := by decide +kernel
theorem dX1_leastLeftNumber_32 : decode cX1_leastLeftNumber 32 = .ok (.iload_n 2, 1) := by decide +kernel
theorem dX1_leastLeftNumber_33 : decode cX1_leastLeftNumber 33 = .ok (.iload_n 1, 1) := by decide +kernel
theorem dX1_leastLeftNumber_34 : decode cX1_leastLeftNumber 34 = .ok (.iand, 1) := by decide +kernel
theorem dX1_leastLeftNumber_35 : decode cX1_leastLeftNumber 35 = .ok (.iload_n 2, 1) := by decide +kernel
theorem dX1_leastLeftNumber_36 : decode cX1_leastLeftNumber 36 = .ok (.if_icmp .ne 24, 3) := by decide +kernel
theorem dX1_leastLeftNumber_39 : decode cX1_leastLeftNumber 39 = .ok (.iload 6, 2) := by decide +kernel
theorem dX1_leastLeftNumber_41 : decode cX1_leastLeftNumber 41 = .ok (.ifCond .eq 8, 3) := by decide +kernel
theorem dX1_leastLeftNumber_44 : decode cX1_leastLeftNumber 44 = .ok (.iload 5, 2) := by decide +kernel
theorem dX1_leastLeftNumber_46 : decode cX1_leastLeftNumber 46 = .ok (.ifCond .eq 14, 3) := by decide +kernel
theorem dX1_leastLeftNumber_49 : decode cX1_leastLeftNumber 49 = .ok (.aload_n 0, 1) := by decide +kernel
theorem dX1_leastLeftNumber_50 : decode cX1_leastLeftNumber 50 = .ok (.getfield 18, 3) := by decide +kernel
theorem dX1_leastLeftNumber_53 : decode cX1_leastLeftNumber 53 = .ok (.iload_n 3, 1) := by decide +kernel
theorem dX1_leastLeftNumber_54 : decode cX1_leastLeftNumber 54 = .ok (.invokevirtual 70, 3) := by decide +kernel
theorem dX1_leastLeftNumber_57 : decode cX1_leastLeftNumber 57 = .ok (.ifCond .ne 5, 3) := by decide +kernel
theorem dX1_leastLeftNumber_60 : decode cX1_leastLeftNumber 60 = .ok (.iconst (-1), 1) := by decide +kernel
theorem dX1_leastLeftNumber_61 : decode cX1_leastLeftNumber 61 = .ok (.ireturn, 1) := by decide +kernel
theorem dX1_leastLeftNumber_62 : decode cX1_leastLeftNumber 62 = .ok (.iload_n 2, 1) := by decide +kernel
theorem dX1_leastLeftNumber_63 : decode cX1_leastLeftNumber 63 = .ok (.iconst 1, 1) := by decide +kernel
theorem dX1_leastLeftNumber_64 : decode cX1_leastLeftNumber 64 = .ok (.if_icmp .lt 12, 3) := by decide +kernel
theorem dX1_leastLeftNumber_67 : decode cX1_leastLeftNumber 67 = .ok (.iload_n 2, 1) := by decide +kernel
theorem dX1_leastLeftNumber_68 : decode cX1_leastLeftNumber 68 = .ok (.aload_n 0, 1) := by decide +kernel
theorem dX1_leastLeftNumber_69 : decode cX1_leastLeftNumber 69 = .ok (.getfield 36, 3) := by decide +kernel
theorem dX1_leastLeftNumber_72 : decode cX1_leastLeftNumber 72 = .ok (.arraylength, 1) := by decide +kernel
theorem dX1_leastLeftNumber_73 : decode cX1_leastLeftNumber 73 = .ok (.if_icmp .lt 5, 3) := by decide +kernel
theorem dX1_leastLeftNumber_76 : decode cX1_leastLeftNumber 76 = .ok (.iconst (-1), 1) := by decide +kernel
theorem dX1_leastLeftNumber_77 : decode cX1_leastLeftNumber 77 = .ok (.ireturn, 1) := by decide +kernel
theorem dX1_leastLeftNumber_78 : decode cX1_leastLeftNumber 78 = .ok (.iconst (-1), 1) := by decide +kernel
theorem dX1_leastLeftNumber_79 : decode cX1_leastLeftNumber 79 = .ok (.istore 7, 2) := by decide +kernel
theorem dX1_leastLeftNumber_81 : decode cX1_leastLeftNumber 81 = .ok (.iconst 0, 1) := by decide +kernel
theorem dX1_leastLeftNumber_82 : decode cX1_leastLeftNumber 82 = .ok (.istore 8, 2) := by decide +kernel
theorem dX1_leastLeftNumber_84 : decode cX1_leastLeftNumber 84 = .ok (.iload 8, 2) := by decide +kernel
theorem dX1_leastLeftNumber_86 : decode cX1_leastLeftNumber 86 = .ok (.aload_n 0, 1) := by decide +kernel
theorem dX1_leastLeftNumber_87 : decode cX1_leastLeftNumber 87 = .ok (.getfield 36, 3) := by decide +kernel
theorem dX1_leastLeftNumber_90 : decode cX1_leastLeftNumber 90 = .ok (.iload_n 2, 1) := by decide +kernel
theorem dX1_leastLeftNumber_91 : decode cX1_leastLeftNumber 91 = .ok (.iaload, 1) := by decide +kernel
theorem dX1_leastLeftNumber_92 : decode cX1_leastLeftNumber 92 = .ok (.if_icmp .ge 69, 3) := by decide +kernel
theorem dX1_leastLeftNumber_95 : decode cX1_leastLeftNumber 95 = .ok (.aload_n 0, 1) := by decide +kernel
theorem dX1_leastLeftNumber_96 : decode cX1_leastLeftNumber 96 = .ok (.getfield 33, 3) := by decide +kernel
theorem dX1_leastLeftNumber_99 : decode cX1_leastLeftNumber 99 = .ok (.iload_n 2, 1) := by decide +kernel
theorem dX1_leastLeftNumber_100 : decode cX1_leastLeftNumber 100 = .ok (.aaload, 1) := by decide +kernel
theorem dX1_leastLeftNumber_101 : decode cX1_leastLeftNumber 101 = .ok (.iload 8, 2) := by decide +kernel
theorem dX1_leastLeftNumber_103 : decode cX1_leastLeftNumber 103 = .ok (.iaload, 1) := by decide +kernel
theorem dX1_leastLeftNumber_104 : decode cX1_leastLeftNumber 104 = .ok (.istore 9, 2) := by decide +kernel
theorem dX1_leastLeftNumber_106 : decode cX1_leastLeftNumber 106 = .ok (.aload_n 0, 1) := by decide +kernel
theorem dX1_leastLeftNumber_107 : decode cX1_leastLeftNumber 107 = .ok (.iload_n 1, 1) := by decide +kernel
theorem dX1_leastLeftNumber_108 : decode cX1_leastLeftNumber 108 = .ok (.iload_n 2, 1) := by decide +kernel
theorem dX1_leastLeftNumber_109 : decode cX1_leastLeftNumber 109 = .ok (.ixor, 1) := by decide +kernel
theorem dX1_leastLeftNumber_110 : decode cX1_leastLeftNumber 110 = .ok (.iload_n 3, 1) := by decide +kernel
theorem dX1_leastLeftNumber_111 : decode cX1_leastLeftNumber 111 = .ok (.iload 9, 2) := by decide +kernel
theorem dX1_leastLeftNumber_113 : decode cX1_leastLeftNumber 113 = .ok (.iload 4, 2) := by decide +kernel
theorem dX1_leastLeftNumber_115 : decode cX1_leastLeftNumber 115 = .ok (.invokestatic 98, 3) := by decide +kernel
theorem dX1_leastLeftNumber_118 : decode cX1_leastLeftNumber 118 = .ok (.invokevirtual 82, 3) := by decide +kernel
theorem dX1_leastLeftNumber_121 : decode cX1_leastLeftNumber 121 = .ok (.lconst 0, 1) := by decide +kernel
theorem dX1_leastLeftNumber_122 : decode cX1_leastLeftNumber 122 = .ok (.lcmp, 1) := by decide +kernel
theorem dX1_leastLeftNumber_123 : decode cX1_leastLeftNumber 123 = .ok (.ifCond .le 7, 3) := by decide +kernel
theorem dX1_leastLeftNumber_126 : decode cX1_leastLeftNumber 126 = .ok (.iconst 1, 1) := by decide +kernel
theorem dX1_leastLeftNumber_127 : decode cX1_leastLeftNumber 127 = .ok (.goto 4, 3) := by decide +kernel
theorem dX1_leastLeftNumber_130 : decode cX1_leastLeftNumber 130 = .ok (.iconst 0, 1) := by decide +kernel
theorem dX1_leastLeftNumber_131 : decode cX1_leastLeftNumber 131 = .ok (.istore 10, 2) := by decide +kernel
theorem dX1_leastLeftNumber_133 : decode cX1_leastLeftNumber 133 = .ok (.iload 10, 2) := by decide +kernel
theorem dX1_leastLeftNumber_135 : decode cX1_leastLeftNumber 135 = .ok (.ifCond .eq 20, 3) := by decide +kernel
theorem dX1_leastLeftNumber_138 : decode cX1_leastLeftNumber 138 = .ok (.iload 7, 2) := by decide +kernel
theorem dX1_leastLeftNumber_140 : decode cX1_leastLeftNumber 140 = .ok (.iconst (-1), 1) := by decide +kernel
theorem dX1_leastLeftNumber_141 : decode cX1_leastLeftNumber 141 = .ok (.if_icmp .eq 10, 3) := by decide +kernel
theorem dX1_leastLeftNumber_144 : decode cX1_leastLeftNumber 144 = .ok (.iload 9, 2) := by decide +kernel
theorem dX1_leastLeftNumber_146 : decode cX1_leastLeftNumber 146 = .ok (.iload 7, 2) := by decide +kernel
theorem dX1_leastLeftNumber_148 : decode cX1_leastLeftNumber 148 = .ok (.if_icmp .ge 7, 3) := by decide +kernel
theorem dX1_leastLeftNumber_151 : decode cX1_leastLeftNumber 151 = .ok (.iload 9, 2) := by decide +kernel
theorem dX1_leastLeftNumber_153 : decode cX1_leastLeftNumber 153 = .ok (.istore 7, 2) := by decide +kernel
theorem dX1_leastLeftNumber_155 : decode cX1_leastLeftNumber 155 = .ok (.iinc 8 1, 3) := by decide +kernel
theorem dX1_leastLeftNumber_158 : decode cX1_leastLeftNumber 158 = .ok (.goto (-74), 3) := by decide +kernel
theorem dX1_leastLeftNumber_161 : decode cX1_leastLeftNumber 161 = .ok (.iload 7, 2) := by decide +kernel
theorem dX1_leastLeftNumber_163 : decode cX1_leastLeftNumber 163 = .ok (.ireturn, 1) := by decide +kernel
theorem dX2_init_0 : decode cX2_init 0 = .ok (.aload_n 0, 1) := by decide +kernel
theorem dX2_init_1 : decode cX2_init 1 = .ok (.invokespecial 3, 3) := by decide +kernel
theorem dX2_init_4 : decode cX2_init 4 = .ok (.aload_n 0, 1) := by decide +kernel
theorem dX2_init_5 : decode cX2_init 5 = .ok (.bipush 33, 2) := by decide +kernel
theorem dX2_init_7 : decode cX2_init 7 = .ok (.newarray .char, 2) := by decide +kernel
theorem dX2_init_9 : decode cX2_init 9 = .ok (.putfield 9, 3) := by decide +kernel
theorem dX2_init_12 : decode cX2_init 12 = .ok (.aload_n 0, 1) := by decide +kernel
theorem dX2_init_13 : decode cX2_init 13 = .ok (.iconst 0, 1) := by decide +kernel
theorem dX2_init_14 : decode cX2_init 14 = .ok (.putfield 15, 3) := by decide +kernel
theorem dX2_init_17 : decode cX2_init 17 = .ok (.return_, 1) := by decide +kernel
theorem dX2_add_0 : decode cX2_add 0 = .ok (.aload_n 0, 1) := by decide +kernel
theorem dX2_add_1 : decode cX2_add 1 = .ok (.getfield 15, 3) := by decide +kernel
theorem dX2_add_4 : decode cX2_add 4 = .ok (.ifCond .lt 35, 3) := by decide +kernel
theorem dX2_add_7 : decode cX2_add 7 = .ok (.aload_n 0, 1) := by decide +kernel
theorem dX2_add_8 : decode cX2_add 8 = .ok (.getfield 15, 3) := by decide +kernel
theorem dX2_add_11 : decode cX2_add 11 = .ok (.aload_n 0, 1) := by decide +kernel
theorem dX2_add_12 : decode cX2_add 12 = .ok (.getfield 9, 3) := by decide +kernel
theorem dX2_add_15 : decode cX2_add 15 = .ok (.arraylength, 1) := by decide +kernel
theorem dX2_add_16 : decode cX2_add 16 = .ok (.if_icmp .ge 23, 3) := by decide +kernel
theorem dX2_add_19 : decode cX2_add 19 = .ok (.aload_n 0, 1) := by decide +kernel
theorem dX2_add_20 : decode cX2_add 20 = .ok (.getfield 9, 3) := by decide +kernel
theorem dX2_add_23 : decode cX2_add 23 = .ok (.aload_n 0, 1) := by decide +kernel
theorem dX2_add_24 : decode cX2_add 24 = .ok (.getfield 15, 3) := by decide +kernel
theorem dX2_add_27 : decode cX2_add 27 = .ok (.iload_n 1, 1) := by decide +kernel
theorem dX2_add_28 : decode cX2_add 28 = .ok (.castore, 1) := by decide +kernel
theorem dX2_add_29 : decode cX2_add 29 = .ok (.aload_n 0, 1) := by decide +kernel
theorem dX2_add_30 : decode cX2_add 30 = .ok (.dup, 1) := by decide +kernel
theorem dX2_add_31 : decode cX2_add 31 = .ok (.getfield 15, 3) := by decide +kernel
theorem dX2_add_34 : decode cX2_add 34 = .ok (.iconst 1, 1) := by decide +kernel
theorem dX2_add_35 : decode cX2_add 35 = .ok (.iadd, 1) := by decide +kernel
theorem dX2_add_36 : decode cX2_add 36 = .ok (.putfield 15, 3) := by decide +kernel
theorem dX2_add_39 : decode cX2_add 39 = .ok (.return_, 1) := by decide +kernel
set_option maxRecDepth 20000 in
theorem ggX2_addNumber_X2_add : GoodIn wsX2_addNumber wsX2_add := goodIn_r _ [5, 6, 7, 8, 9] (by decide +kernel) (by decide +kernel)
set_option maxRecDepth 20000 in
theorem gX2_addNumber_X2_add : GoodIn wsX2_addNumber (wsV RX2 19 RX2 yX2_add wsX2_add) := goodIn_app (goodIn_of _ (by decide +kernel)) ggX2_addNumber_X2_add
theorem dX2_addNumber_0 : decode cX2_addNumber 0 = .ok (.sipush 1000, 3) := by decide +kernel
theorem dX2_addNumber_3 : decode cX2_addNumber 3 = .ok (.istore_n 2, 1) := by decide +kernel
theorem dX2_addNumber_4 : decode cX2_addNumber 4 = .ok (.iload_n 2, 1) := by decide +kernel
theorem dX2_addNumber_5 : decode cX2_addNumber 5 = .ok (.ifCond .le 30, 3) := by decide +kernel
theorem dX2_addNumber_8 : decode cX2_addNumber 8 = .ok (.iload_n 1, 1) := by decide +kernel
theorem dX2_addNumber_9 : decode cX2_addNumber 9 = .ok (.iload_n 2, 1) := by decide +kernel
theorem dX2_addNumber_10 : decode cX2_addNumber 10 = .ok (.if_icmp .lt 17, 3) := by decide +kernel
theorem dX2_addNumber_13 : decode cX2_addNumber 13 = .ok (.aload_n 0, 1) := by decide +kernel
theorem dX2_addNumber_14 : decode cX2_addNumber 14 = .ok (.bipush 48, 2) := by decide +kernel
theorem dX2_addNumber_16 : decode cX2_addNumber 16 = .ok (.iload_n 1, 1) := by decide +kernel
theorem dX2_addNumber_17 : decode cX2_addNumber 17 = .ok (.iload_n 2, 1) := by decide +kernel
theorem dX2_addNumber_18 : decode cX2_addNumber 18 = .ok (.idiv, 1) := by decide +kernel
theorem dX2_addNumber_19 : decode cX2_addNumber 19 = .ok (.bipush 10, 2) := by decide +kernel
theorem dX2_addNumber_21 : decode cX2_addNumber 21 = .ok (.irem, 1) := by decide +kernel
theorem dX2_addNumber_22 : decode cX2_addNumber 22 = .ok (.iadd, 1) := by decide +kernel
theorem dX2_addNumber_23 : decode cX2_addNumber 23 = .ok (.i2c, 1) := by decide +kernel
theorem dX2_addNumber_24 : decode cX2_addNumber 24 = .ok (.invokevirtual 19, 3) := by decide +kernel
theorem dX2_addNumber_27 : decode cX2_addNumber 27 = .ok (.iload_n 2, 1) := by decide +kernel
theorem dX2_addNumber_28 : decode cX2_addNumber 28 = .ok (.bipush 10, 2) := by decide +kernel
theorem dX2_addNumber_30 : decode cX2_addNumber 30 = .ok (.idiv, 1) := by decide +kernel
theorem dX2_addNumber_31 : decode cX2_addNumber 31 = .ok (.istore_n 2, 1) := by decide +kernel
theorem dX2_addNumber_32 : decode cX2_addNumber 32 = .ok (.goto (-28), 3) := by decide +kernel
theorem dX2_addNumber_35 : decode cX2_addNumber 35 = .ok (.return_, 1) := by decide +kernel
theorem dX2_byteAt_0 : decode cX2_byteAt 0 = .ok (.iload_n 1, 1) := by decide +kernel
theorem dX2_byteAt_1 : decode cX2_byteAt 1 = .ok (.ifCond .lt 20, 3) := by decide +kernel
theorem dX2_byteAt_4 : decode cX2_byteAt 4 = .ok (.iload_n 1, 1) := by decide +kernel
theorem dX2_byteAt_5 : decode cX2_byteAt 5 = .ok (.aload_n 0, 1) := by decide +kernel
theorem dX2_byteAt_6 : decode cX2_byteAt 6 = .ok (.getfield 15, 3) := by decide +kernel
theorem dX2_byteAt_9 : decode cX2_byteAt 9 = .ok (.if_icmp .ge 12, 3) := by decide +kernel
theorem dX2_byteAt_12 : decode cX2_byteAt 12 = .ok (.iload_n 1, 1) := by decide +kernel
theorem dX2_byteAt_13 : decode cX2_byteAt 13 = .ok (.aload_n 0, 1) := by decide +kernel
theorem dX2_byteAt_14 : decode cX2_byteAt 14 = .ok (.getfield 9, 3) := by decide +kernel
theorem dX2_byteAt_17 : decode cX2_byteAt 17 = .ok (.arraylength, 1) := by decide +kernel
theorem dX2_byteAt_18 : decode cX2_byteAt 18 = .ok (.if_icmp .lt 7, 3) := by decide +kernel
theorem dX2_byteAt_21 : decode cX2_byteAt 21 = .ok (.iconst (-1), 1) := by decide +kernel
theorem dX2_byteAt_22 : decode cX2_byteAt 22 = .ok (.goto 9, 3) := by decide +kernel
theorem dX2_byteAt_25 : decode cX2_byteAt 25 = .ok (.aload_n 0, 1) := by decide +kernel
theorem dX2_byteAt_26 : decode cX2_byteAt 26 = .ok (.getfield 9, 3) := by decide +kernel
theorem dX2_byteAt_29 : decode cX2_byteAt 29 = .ok (.iload_n 1, 1) := by decide +kernel
theorem dX2_byteAt_30 : decode cX2_byteAt 30 = .ok (.caload, 1) := by decide +kernel
theorem dX2_byteAt_31 : decode cX2_byteAt 31 = .ok (.ireturn, 1) := by decide +kernel
theorem dX3_init_0 : decode cX3_init 0 = .ok (.aload_n 0, 1) := by decide +kernel
theorem dX3_init_1 : decode cX3_init 1 = .ok (.invokespecial 3, 3) := by decide +kernel
theorem dX3_init_4 : decode cX3_init 4 = .ok (.aload_n 0, 1) := by decide +kernel
theorem dX3_init_5 : decode cX3_init 5 = .ok (.bipush 15, 2) := by decide +kernel
theorem dX3_init_7 : decode cX3_init 7 = .ok (.putfield 9, 3) := by decide +kernel
theorem dX3_init_10 : decode cX3_init 10 = .ok (.aload_n 0, 1) := by decide +kernel
theorem dX3_init_11 : decode cX3_init 11 = .ok (.sipush 3000, 3) := by decide +kernel
theorem dX3_init_14 : decode cX3_init 14 = .ok (.putfield 15, 3) := by decide +kernel
theorem dX3_init_17 : decode cX3_init 17 = .ok (.return_, 1) := by decide +kernel
theorem dX3_allow_0 : decode cX3_allow 0 = .ok (.aload_n 0, 1) := by decide +kernel
theorem dX3_allow_1 : decode cX3_allow 1 = .ok (.getfield 9, 3) := by decide +kernel
theorem dX3_allow_4 : decode cX3_allow 4 = .ok (.iconst 1, 1) := by decide +kernel
theorem dX3_allow_5 : decode cX3_allow 5 = .ok (.iload_n 1, 1) := by decide +kernel
theorem dX3_allow_6 : decode cX3_allow 6 = .ok (.ishl, 1) := by decide +kernel
theorem dX3_allow_7 : decode cX3_allow 7 = .ok (.iand, 1) := by decide +kernel
theorem dX3_allow_8 : decode cX3_allow 8 = .ok (.ifCond .eq 7, 3) := by decide +kernel
theorem dX3_allow_11 : decode cX3_allow 11 = .ok (.iconst 1, 1) := by decide +kernel
theorem dX3_allow_12 : decode cX3_allow 12 = .ok (.goto 4, 3) := by decide +kernel
theorem dX3_allow_15 : decode cX3_allow 15 = .ok (.iconst 0, 1) := by decide +kernel
theorem dX3_allow_16 : decode cX3_allow 16 = .ok (.ireturn, 1) := by decide +kernel
theorem dX4_init_0 : decode cX4_init 0 = .ok (.aload_n 0, 1) := by decide +kernel
theorem dX4_init_1 : decode cX4_init 1 = .ok (.invokespecial 3, 3) := by decide +kernel
theorem dX4_init_4 : decode cX4_init 4 = .ok (.aload_n 0, 1) := by decide +kernel
theorem dX4_init_5 : decode cX4_init 5 = .ok (.sipush 5041, 3) := by decide +kernel
theorem dX4_init_8 : decode cX4_init 8 = .ok (.newarray .int, 2) := by decide +kernel
theorem dX4_init_10 : decode cX4_init 10 = .ok (.putfield 9, 3) := by decide +kernel
theorem dX4_init_13 : decode cX4_init 13 = .ok (.aload_n 0, 1) := by decide +kernel
theorem dX4_init_14 : decode cX4_init 14 = .ok (.sipush 5041, 3) := by decide +kernel
theorem dX4_init_17 : decode cX4_init 17 = .ok (.newarray .int, 2) := by decide +kernel
theorem dX4_init_19 : decode cX4_init 19 = .ok (.putfield 15, 3) := by decide +kernel
theorem dX4_init_22 : decode cX4_init 22 = .ok (.aload_n 0, 1) := by decide +kernel
theorem dX4_init_23 : decode cX4_init 23 = .ok (.iconst 0, 1) := by decide +kernel
theorem dX4_init_24 : decode cX4_init 24 = .ok (.putfield 18, 3) := by decide +kernel
theorem dX4_init_27 : decode cX4_init 27 = .ok (.aload_n 0, 1) := by decide +kernel
theorem dX4_init_28 : decode cX4_init 28 = .ok (.iconst (-1), 1) := by decide +kernel
theorem dX4_init_29 : decode cX4_init 29 = .ok (.putfield 22, 3) := by decide +kernel
theorem dX4_init_32 : decode cX4_init 32 = .ok (.return_, 1) := by decide +kernel
set_option maxRecDepth 20000 in
theorem ggX4_stepsBetween_X5_isOutside : GoodIn wsX4_stepsBetween wsX5_isOutside := goodIn_r _ [5] (by decide +kernel) (by decide +kernel)
set_option maxRecDepth 20000 in
theorem gX4_stepsBetween_X5_isOutside_n25 : GoodIn wsX4_stepsBetween (wsX5_isOutside) := ggX4_stepsBetween_X5_isOutside
set_option maxRecDepth 20000 in
theorem ggX4_stepsBetween_X4_walkFrom : GoodIn wsX4_stepsBetween wsX4_walkFrom := goodIn_r _ [10, 1, 11, 2, 12, 13, 14, 15, 9, 16, 3, 4, 5, 17, 18, 19, 20, 21, 22, 23, 24, 25, 26, 27, 28, 29] (by decide +kernel) (by decide +kernel)
set_option maxRecDepth 20000 in
theorem gX4_stepsBetween_X4_walkFrom : GoodIn wsX4_stepsBetween (wsV RX4 29 RX4 yX4_walkFrom wsX4_walkFrom) := goodIn_app (goodIn_of _ (by decide +kernel)) ggX4_stepsBetween_X4_walkFrom
theorem dX4_stepsBetween_0 : decode cX4_stepsBetween 0 = .ok (.iload_n 2, 1) := by decide +kernel
theorem dX4_stepsBetween_1 : decode cX4_stepsBetween 1 = .ok (.iconst 0, 1) := by decide +kernel
theorem dX4_stepsBetween_2 : decode cX4_stepsBetween 2 = .ok (.sipush 5040, 3) := by decide +kernel
theorem dX4_stepsBetween_5 : decode cX4_stepsBetween 5 = .ok (.invokestatic 25, 3) := by decide +kernel
theorem dX4_stepsBetween_8 : decode cX4_stepsBetween 8 = .ok (.ifCond .eq 5, 3) := by decide +kernel
theorem dX4_stepsBetween_11 : decode cX4_stepsBetween 11 = .ok (.iconst (-1), 1) := by decide +kernel
theorem dX4_stepsBetween_12 : decode cX4_stepsBetween 12 = .ok (.ireturn, 1) := by decide +kernel
theorem dX4_stepsBetween_13 : decode cX4_stepsBetween 13 = .ok (.iload_n 1, 1) := by decide +kernel
theorem dX4_stepsBetween_14 : decode cX4_stepsBetween 14 = .ok (.aload_n 0, 1) := by decide +kernel
theorem dX4_stepsBetween_15 : decode cX4_stepsBetween 15 = .ok (.getfield 22, 3) := by decide +kernel
theorem dX4_stepsBetween_18 : decode cX4_stepsBetween 18 = .ok (.if_icmp .eq 8, 3) := by decide +kernel
theorem dX4_stepsBetween_21 : decode cX4_stepsBetween 21 = .ok (.aload_n 0, 1) := by decide +kernel
theorem dX4_stepsBetween_22 : decode cX4_stepsBetween 22 = .ok (.iload_n 1, 1) := by decide +kernel
theorem dX4_stepsBetween_23 : decode cX4_stepsBetween 23 = .ok (.invokevirtual 29, 3) := by decide +kernel
theorem dX4_stepsBetween_26 : decode cX4_stepsBetween 26 = .ok (.aload_n 0, 1) := by decide +kernel
theorem dX4_stepsBetween_27 : decode cX4_stepsBetween 27 = .ok (.getfield 9, 3) := by decide +kernel
theorem dX4_stepsBetween_30 : decode cX4_stepsBetween 30 = .ok (.iload_n 2, 1) := by decide +kernel
theorem dX4_stepsBetween_31 : decode cX4_stepsBetween 31 = .ok (.iaload, 1) := by decide +kernel
theorem dX4_stepsBetween_32 : decode cX4_stepsBetween 32 = .ok (.ireturn, 1) := by decide +kernel
set_option maxRecDepth 20000 in
theorem ggX4_walkFrom_X4_arrive : GoodIn wsX4_walkFrom wsX4_arrive := goodIn_r _ [9, 3, 2, 4, 10, 11, 12, 22, 23, 24, 25] (by decide +kernel) (by decide +kernel)
set_option maxRecDepth 20000 in
theorem gX4_walkFrom_X4_arrive : GoodIn wsX4_walkFrom (wsV RX4 33 RX4 yX4_arrive wsX4_arrive) := goodIn_app (goodIn_of _ (by decide +kernel)) ggX4_walkFrom_X4_arrive
set_option maxRecDepth 20000 in
theorem ggX4_walkFrom_X4_signed : GoodIn wsX4_walkFrom wsX4_signed := goodIn_r _ [15, 16, 17, 8, 18, 19, 20, 21] (by decide +kernel) (by decide +kernel)
set_option maxRecDepth 20000 in
theorem gX4_walkFrom_X4_signed : GoodIn wsX4_walkFrom (va_wsS RX4 37 yX4_signed wsX4_signed) := goodIn_app (goodIn_of _ (by decide +kernel)) ggX4_walkFrom_X4_signed
theorem dX4_walkFrom_0 : decode cX4_walkFrom 0 = .ok (.aload_n 0, 1) := by decide +kernel
theorem dX4_walkFrom_1 : decode cX4_walkFrom 1 = .ok (.iload_n 1, 1) := by decide +kernel
theorem dX4_walkFrom_2 : decode cX4_walkFrom 2 = .ok (.putfield 22, 3) := by decide +kernel
theorem dX4_walkFrom_5 : decode cX4_walkFrom 5 = .ok (.aload_n 0, 1) := by decide +kernel
theorem dX4_walkFrom_6 : decode cX4_walkFrom 6 = .ok (.iconst 0, 1) := by decide +kernel
theorem dX4_walkFrom_7 : decode cX4_walkFrom 7 = .ok (.putfield 18, 3) := by decide +kernel
theorem dX4_walkFrom_10 : decode cX4_walkFrom 10 = .ok (.iconst 0, 1) := by decide +kernel
theorem dX4_walkFrom_11 : decode cX4_walkFrom 11 = .ok (.istore_n 2, 1) := by decide +kernel
theorem dX4_walkFrom_12 : decode cX4_walkFrom 12 = .ok (.iload_n 2, 1) := by decide +kernel
theorem dX4_walkFrom_13 : decode cX4_walkFrom 13 = .ok (.aload_n 0, 1) := by decide +kernel
theorem dX4_walkFrom_14 : decode cX4_walkFrom 14 = .ok (.getfield 9, 3) := by decide +kernel
theorem dX4_walkFrom_17 : decode cX4_walkFrom 17 = .ok (.arraylength, 1) := by decide +kernel
theorem dX4_walkFrom_18 : decode cX4_walkFrom 18 = .ok (.if_icmp .ge 16, 3) := by decide +kernel
theorem dX4_walkFrom_21 : decode cX4_walkFrom 21 = .ok (.aload_n 0, 1) := by decide +kernel
theorem dX4_walkFrom_22 : decode cX4_walkFrom 22 = .ok (.getfield 9, 3) := by decide +kernel
theorem dX4_walkFrom_25 : decode cX4_walkFrom 25 = .ok (.iload_n 2, 1) := by decide +kernel
theorem dX4_walkFrom_26 : decode cX4_walkFrom 26 = .ok (.iconst (-1), 1) := by decide +kernel
theorem dX4_walkFrom_27 : decode cX4_walkFrom 27 = .ok (.iastore, 1) := by decide +kernel
theorem dX4_walkFrom_28 : decode cX4_walkFrom 28 = .ok (.iinc 2 1, 3) := by decide +kernel
theorem dX4_walkFrom_31 : decode cX4_walkFrom 31 = .ok (.goto (-19), 3) := by decide +kernel
theorem dX4_walkFrom_34 : decode cX4_walkFrom 34 = .ok (.aload_n 0, 1) := by decide +kernel
theorem dX4_walkFrom_35 : decode cX4_walkFrom 35 = .ok (.iload_n 1, 1) := by decide +kernel
theorem dX4_walkFrom_36 : decode cX4_walkFrom 36 = .ok (.iconst 0, 1) := by decide +kernel
theorem dX4_walkFrom_37 : decode cX4_walkFrom 37 = .ok (.invokevirtual 33, 3) := by decide +kernel
theorem dX4_walkFrom_40 : decode cX4_walkFrom 40 = .ok (.iconst 0, 1) := by decide +kernel
theorem dX4_walkFrom_41 : decode cX4_walkFrom 41 = .ok (.istore_n 2, 1) := by decide +kernel
theorem dX4_walkFrom_42 : decode cX4_walkFrom 42 = .ok (.iload_n 2, 1) := by decide +kernel
theorem dX4_walkFrom_43 : decode cX4_walkFrom 43 = .ok (.aload_n 0, 1) := by decide +kernel
theorem dX4_walkFrom_44 : decode cX4_walkFrom 44 = .ok (.getfield 18, 3) := by decide +kernel
theorem dX4_walkFrom_47 : decode cX4_walkFrom 47 = .ok (.if_icmp .ge 58, 3) := by decide +kernel
theorem dX4_walkFrom_50 : decode cX4_walkFrom 50 = .ok (.iload_n 2, 1) := by decide +kernel
theorem dX4_walkFrom_51 : decode cX4_walkFrom 51 = .ok (.aload_n 0, 1) := by decide +kernel
theorem dX4_walkFrom_52 : decode cX4_walkFrom 52 = .ok (.getfield 15, 3) := by decide +kernel
theorem dX4_walkFrom_55 : decode cX4_walkFrom 55 = .ok (.arraylength, 1) := by decide +kernel
theorem dX4_walkFrom_56 : decode cX4_walkFrom 56 = .ok (.if_icmp .ge 49, 3) := by decide +kernel
theorem dX4_walkFrom_59 : decode cX4_walkFrom 59 = .ok (.aload_n 0, 1) := by decide +kernel
theorem dX4_walkFrom_60 : decode cX4_walkFrom 60 = .ok (.getfield 15, 3) := by decide +kernel
theorem dX4_walkFrom_63 : decode cX4_walkFrom 63 = .ok (.iload_n 2, 1) := by decide +kernel
theorem dX4_walkFrom_64 : decode cX4_walkFrom 64 = .ok (.iaload, 1) := by decide +kernel
theorem dX4_walkFrom_65 : decode cX4_walkFrom 65 = .ok (.istore_n 3, 1) := by decide +kernel
theorem dX4_walkFrom_66 : decode cX4_walkFrom 66 = .ok (.iconst 0, 1) := by decide +kernel
theorem dX4_walkFrom_67 : decode cX4_walkFrom 67 = .ok (.istore 4, 2) := by decide +kernel
theorem dX4_walkFrom_69 : decode cX4_walkFrom 69 = .ok (.iload 4, 2) := by decide +kernel
theorem dX4_walkFrom_71 : decode cX4_walkFrom 71 = .ok (.iconst 4, 1) := by decide +kernel
theorem dX4_walkFrom_72 : decode cX4_walkFrom 72 = .ok (.if_icmp .ge 27, 3) := by decide +kernel
theorem dX4_walkFrom_75 : decode cX4_walkFrom 75 = .ok (.aload_n 0, 1) := by decide +kernel
theorem dX4_walkFrom_76 : decode cX4_walkFrom 76 = .ok (.iload 4, 2) := by decide +kernel
theorem dX4_walkFrom_78 : decode cX4_walkFrom 78 = .ok (.iload_n 3, 1) := by decide +kernel
theorem dX4_walkFrom_79 : decode cX4_walkFrom 79 = .ok (.invokestatic 37, 3) := by decide +kernel
theorem dX4_walkFrom_82 : decode cX4_walkFrom 82 = .ok (.aload_n 0, 1) := by decide +kernel
theorem dX4_walkFrom_83 : decode cX4_walkFrom 83 = .ok (.getfield 9, 3) := by decide +kernel
theorem dX4_walkFrom_86 : decode cX4_walkFrom 86 = .ok (.iload_n 3, 1) := by decide +kernel
theorem dX4_walkFrom_87 : decode cX4_walkFrom 87 = .ok (.iaload, 1) := by decide +kernel
theorem dX4_walkFrom_88 : decode cX4_walkFrom 88 = .ok (.iconst 1, 1) := by decide +kernel
theorem dX4_walkFrom_89 : decode cX4_walkFrom 89 = .ok (.iadd, 1) := by decide +kernel
theorem dX4_walkFrom_90 : decode cX4_walkFrom 90 = .ok (.invokevirtual 33, 3) := by decide +kernel
theorem dX4_walkFrom_93 : decode cX4_walkFrom 93 = .ok (.iinc 4 1, 3) := by decide +kernel
theorem dX4_walkFrom_96 : decode cX4_walkFrom 96 = .ok (.goto (-27), 3) := by decide +kernel
theorem dX4_walkFrom_99 : decode cX4_walkFrom 99 = .ok (.iinc 2 1, 3) := by decide +kernel
theorem dX4_walkFrom_102 : decode cX4_walkFrom 102 = .ok (.goto (-60), 3) := by decide +kernel
theorem dX4_walkFrom_105 : decode cX4_walkFrom 105 = .ok (.return_, 1) := by decide +kernel
set_option maxRecDepth 20000 in
theorem ggX4_arrive_X5_isOutside : GoodIn wsX4_arrive wsX5_isOutside := goodIn_r _ [6] (by decide +kernel) (by decide +kernel)
set_option maxRecDepth 20000 in
theorem gX4_arrive_X5_isOutside_n25 : GoodIn wsX4_arrive (wsX5_isOutside) := ggX4_arrive_X5_isOutside
theorem dX4_arrive_0 : decode cX4_arrive 0 = .ok (.iload_n 1, 1) := by decide +kernel
theorem dX4_arrive_1 : decode cX4_arrive 1 = .ok (.iconst 0, 1) := by decide +kernel
theorem dX4_arrive_2 : decode cX4_arrive 2 = .ok (.sipush 5040, 3) := by decide +kernel
theorem dX4_arrive_5 : decode cX4_arrive 5 = .ok (.invokestatic 25, 3) := by decide +kernel
theorem dX4_arrive_8 : decode cX4_arrive 8 = .ok (.ifCond .ne 25, 3) := by decide +kernel
theorem dX4_arrive_11 : decode cX4_arrive 11 = .ok (.aload_n 0, 1) := by decide +kernel
theorem dX4_arrive_12 : decode cX4_arrive 12 = .ok (.getfield 9, 3) := by decide +kernel
theorem dX4_arrive_15 : decode cX4_arrive 15 = .ok (.iload_n 1, 1) := by decide +kernel
theorem dX4_arrive_16 : decode cX4_arrive 16 = .ok (.iaload, 1) := by decide +kernel
theorem dX4_arrive_17 : decode cX4_arrive 17 = .ok (.iconst (-1), 1) := by decide +kernel
theorem dX4_arrive_18 : decode cX4_arrive 18 = .ok (.if_icmp .ne 15, 3) := by decide +kernel
theorem dX4_arrive_21 : decode cX4_arrive 21 = .ok (.aload_n 0, 1) := by decide +kernel
theorem dX4_arrive_22 : decode cX4_arrive 22 = .ok (.getfield 18, 3) := by decide +kernel
theorem dX4_arrive_25 : decode cX4_arrive 25 = .ok (.aload_n 0, 1) := by decide +kernel
theorem dX4_arrive_26 : decode cX4_arrive 26 = .ok (.getfield 15, 3) := by decide +kernel
theorem dX4_arrive_29 : decode cX4_arrive 29 = .ok (.arraylength, 1) := by decide +kernel
theorem dX4_arrive_30 : decode cX4_arrive 30 = .ok (.if_icmp .lt 4, 3) := by decide +kernel
theorem dX4_arrive_33 : decode cX4_arrive 33 = .ok (.return_, 1) := by decide +kernel
theorem dX4_arrive_34 : decode cX4_arrive 34 = .ok (.aload_n 0, 1) := by decide +kernel
theorem dX4_arrive_35 : decode cX4_arrive 35 = .ok (.getfield 9, 3) := by decide +kernel
theorem dX4_arrive_38 : decode cX4_arrive 38 = .ok (.iload_n 1, 1) := by decide +kernel
theorem dX4_arrive_39 : decode cX4_arrive 39 = .ok (.iload_n 2, 1) := by decide +kernel
theorem dX4_arrive_40 : decode cX4_arrive 40 = .ok (.iastore, 1) := by decide +kernel
theorem dX4_arrive_41 : decode cX4_arrive 41 = .ok (.aload_n 0, 1) := by decide +kernel
theorem dX4_arrive_42 : decode cX4_arrive 42 = .ok (.getfield 15, 3) := by decide +kernel
theorem dX4_arrive_45 : decode cX4_arrive 45 = .ok (.aload_n 0, 1) := by decide +kernel
theorem dX4_arrive_46 : decode cX4_arrive 46 = .ok (.getfield 18, 3) := by decide +kernel
theorem dX4_arrive_49 : decode cX4_arrive 49 = .ok (.iload_n 1, 1) := by decide +kernel
theorem dX4_arrive_50 : decode cX4_arrive 50 = .ok (.iastore, 1) := by decide +kernel
theorem dX4_arrive_51 : decode cX4_arrive 51 = .ok (.aload_n 0, 1) := by decide +kernel
theorem dX4_arrive_52 : decode cX4_arrive 52 = .ok (.dup, 1) := by decide +kernel
theorem dX4_arrive_53 : decode cX4_arrive 53 = .ok (.getfield 18, 3) := by decide +kernel
theorem dX4_arrive_56 : decode cX4_arrive 56 = .ok (.iconst 1, 1) := by decide +kernel
theorem dX4_arrive_57 : decode cX4_arrive 57 = .ok (.iadd, 1) := by decide +kernel
theorem dX4_arrive_58 : decode cX4_arrive 58 = .ok (.putfield 18, 3) := by decide +kernel
theorem dX4_arrive_61 : decode cX4_arrive 61 = .ok (.return_, 1) := by decide +kernel
set_option maxRecDepth 20000 in
theorem ggX4_signed_X4_rootOf : GoodIn wsX4_signed wsX4_rootOf := goodIn_r _ [4] (by decide +kernel) (by decide +kernel)
set_option maxRecDepth 20000 in
theorem gX4_signed_X4_rootOf : GoodIn wsX4_signed (va_wsS RX4 41 yX4_rootOf wsX4_rootOf) := goodIn_app (goodIn_of _ (by decide +kernel)) ggX4_signed_X4_rootOf
set_option maxRecDepth 20000 in
theorem ggX4_signed_X4_productTo : GoodIn wsX4_signed wsX4_productTo := goodIn_r _ [7] (by decide +kernel) (by decide +kernel)
set_option maxRecDepth 20000 in
theorem gX4_signed_X4_productTo : GoodIn wsX4_signed (va_wsS RX4 45 yX4_productTo wsX4_productTo) := goodIn_app (goodIn_of _ (by decide +kernel)) ggX4_signed_X4_productTo
theorem dX4_signed_0 : decode cX4_signed 0 = .ok (.iload_n 0, 1) := by decide +kernel
theorem dX4_signed_1 : decode cX4_signed 1 = .ok (.tableswitch 65 0 2 #[27, 32, 47], 27) := by decide +kernel
theorem dX4_signed_28 : decode cX4_signed 28 = .ok (.iload_n 1, 1) := by decide +kernel
theorem dX4_signed_29 : decode cX4_signed 29 = .ok (.invokestatic 41, 3) := by decide +kernel
theorem dX4_signed_32 : decode cX4_signed 32 = .ok (.ireturn, 1) := by decide +kernel
theorem dX4_signed_33 : decode cX4_signed 33 = .ok (.iload_n 1, 1) := by decide +kernel
theorem dX4_signed_34 : decode cX4_signed 34 = .ok (.bipush 7, 2) := by decide +kernel
theorem dX4_signed_36 : decode cX4_signed 36 = .ok (.if_icmp .gt 10, 3) := by decide +kernel
theorem dX4_signed_39 : decode cX4_signed 39 = .ok (.iload_n 1, 1) := by decide +kernel
theorem dX4_signed_40 : decode cX4_signed 40 = .ok (.invokestatic 45, 3) := by decide +kernel
theorem dX4_signed_43 : decode cX4_signed 43 = .ok (.goto 4, 3) := by decide +kernel
theorem dX4_signed_46 : decode cX4_signed 46 = .ok (.iconst (-1), 1) := by decide +kernel
theorem dX4_signed_47 : decode cX4_signed 47 = .ok (.ireturn, 1) := by decide +kernel
theorem dX4_signed_48 : decode cX4_signed 48 = .ok (.iload_n 1, 1) := by decide +kernel
theorem dX4_signed_49 : decode cX4_signed 49 = .ok (.bipush 70, 2) := by decide +kernel
theorem dX4_signed_51 : decode cX4_signed 51 = .ok (.if_icmp .gt 13, 3) := by decide +kernel
theorem dX4_signed_54 : decode cX4_signed 54 = .ok (.iload_n 1, 1) := by decide +kernel
theorem dX4_signed_55 : decode cX4_signed 55 = .ok (.iload_n 1, 1) := by decide +kernel
theorem dX4_signed_56 : decode cX4_signed 56 = .ok (.iconst 1, 1) := by decide +kernel
theorem dX4_signed_57 : decode cX4_signed 57 = .ok (.iadd, 1) := by decide +kernel
theorem dX4_signed_58 : decode cX4_signed 58 = .ok (.imul, 1) := by decide +kernel
theorem dX4_signed_59 : decode cX4_signed 59 = .ok (.iconst 2, 1) := by decide +kernel
theorem dX4_signed_60 : decode cX4_signed 60 = .ok (.idiv, 1) := by decide +kernel
theorem dX4_signed_61 : decode cX4_signed 61 = .ok (.goto 4, 3) := by decide +kernel
theorem dX4_signed_64 : decode cX4_signed 64 = .ok (.iconst (-1), 1) := by decide +kernel
theorem dX4_signed_65 : decode cX4_signed 65 = .ok (.ireturn, 1) := by decide +kernel
theorem dX4_signed_66 : decode cX4_signed 66 = .ok (.iload_n 1, 1) := by decide +kernel
theorem dX4_signed_67 : decode cX4_signed 67 = .ok (.iconst 1, 1) := by decide +kernel
theorem dX4_signed_68 : decode cX4_signed 68 = .ok (.isub, 1) := by decide +kernel
theorem dX4_signed_69 : decode cX4_signed 69 = .ok (.ireturn, 1) := by decide +kernel
theorem dX4_rootOf_0 : decode cX4_rootOf 0 = .ok (.iconst 0, 1) := by decide +kernel
theorem dX4_rootOf_1 : decode cX4_rootOf 1 = .ok (.istore_n 1, 1) := by decide +kernel
theorem dX4_rootOf_2 : decode cX4_rootOf 2 = .ok (.bipush 64, 2) := by decide +kernel
theorem dX4_rootOf_4 : decode cX4_rootOf 4 = .ok (.istore_n 2, 1) := by decide +kernel
theorem dX4_rootOf_5 : decode cX4_rootOf 5 = .ok (.iload_n 2, 1) := by decide +kernel
theorem dX4_rootOf_6 : decode cX4_rootOf 6 = .ok (.ifCond .le 25, 3) := by decide +kernel
theorem dX4_rootOf_9 : decode cX4_rootOf 9 = .ok (.iload_n 1, 1) := by decide +kernel
theorem dX4_rootOf_10 : decode cX4_rootOf 10 = .ok (.iload_n 2, 1) := by decide +kernel
theorem dX4_rootOf_11 : decode cX4_rootOf 11 = .ok (.iadd, 1) := by decide +kernel
theorem dX4_rootOf_12 : decode cX4_rootOf 12 = .ok (.iload_n 1, 1) := by decide +kernel
theorem dX4_rootOf_13 : decode cX4_rootOf 13 = .ok (.iload_n 2, 1) := by decide +kernel
theorem dX4_rootOf_14 : decode cX4_rootOf 14 = .ok (.iadd, 1) := by decide +kernel
theorem dX4_rootOf_15 : decode cX4_rootOf 15 = .ok (.imul, 1) := by decide +kernel
theorem dX4_rootOf_16 : decode cX4_rootOf 16 = .ok (.iload_n 0, 1) := by decide +kernel
theorem dX4_rootOf_17 : decode cX4_rootOf 17 = .ok (.if_icmp .gt 7, 3) := by decide +kernel
theorem dX4_rootOf_20 : decode cX4_rootOf 20 = .ok (.iload_n 1, 1) := by decide +kernel
theorem dX4_rootOf_21 : decode cX4_rootOf 21 = .ok (.iload_n 2, 1) := by decide +kernel
theorem dX4_rootOf_22 : decode cX4_rootOf 22 = .ok (.iadd, 1) := by decide +kernel
theorem dX4_rootOf_23 : decode cX4_rootOf 23 = .ok (.istore_n 1, 1) := by decide +kernel
theorem dX4_rootOf_24 : decode cX4_rootOf 24 = .ok (.iload_n 2, 1) := by decide +kernel
theorem dX4_rootOf_25 : decode cX4_rootOf 25 = .ok (.iconst 2, 1) := by decide +kernel
theorem dX4_rootOf_26 : decode cX4_rootOf 26 = .ok (.idiv, 1) := by decide +kernel
theorem dX4_rootOf_27 : decode cX4_rootOf 27 = .ok (.istore_n 2, 1) := by decide +kernel
theorem dX4_rootOf_28 : decode cX4_rootOf 28 = .ok (.goto (-23), 3) := by decide +kernel
theorem dX4_rootOf_31 : decode cX4_rootOf 31 = .ok (.iload_n 1, 1) := by decide +kernel
theorem dX4_rootOf_32 : decode cX4_rootOf 32 = .ok (.ireturn, 1) := by decide +kernel
theorem dX4_productTo_0 : decode cX4_productTo 0 = .ok (.iconst 1, 1) := by decide +kernel
theorem dX4_productTo_1 : decode cX4_productTo 1 = .ok (.istore_n 1, 1) := by decide +kernel
theorem dX4_productTo_2 : decode cX4_productTo 2 = .ok (.iconst 2, 1) := by decide +kernel
theorem dX4_productTo_3 : decode cX4_productTo 3 = .ok (.istore_n 2, 1) := by decide +kernel
theorem dX4_productTo_4 : decode cX4_productTo 4 = .ok (.iload_n 2, 1) := by decide +kernel
theorem dX4_productTo_5 : decode cX4_productTo 5 = .ok (.iload_n 0, 1) := by decide +kernel
theorem dX4_productTo_6 : decode cX4_productTo 6 = .ok (.if_icmp .gt 13, 3) := by decide +kernel
theorem dX4_productTo_9 : decode cX4_productTo 9 = .ok (.iload_n 1, 1) := by decide +kernel
theorem dX4_productTo_10 : decode cX4_productTo 10 = .ok (.iload_n 2, 1) := by decide +kernel
theorem dX4_productTo_11 : decode cX4_productTo 11 = .ok (.imul, 1) := by decide +kernel
theorem dX4_productTo_12 : decode cX4_productTo 12 = .ok (.istore_n 1, 1) := by decide +kernel
theorem dX4_productTo_13 : decode cX4_productTo 13 = .ok (.iinc 2 1, 3) := by decide +kernel
theorem dX4_productTo_16 : decode cX4_productTo 16 = .ok (.goto (-12), 3) := by decide +kernel
theorem dX4_productTo_19 : decode cX4_productTo 19 = .ok (.iload_n 1, 1) := by decide +kernel
theorem dX4_productTo_20 : decode cX4_productTo 20 = .ok (.ireturn, 1) := by decide +kernel
set_option maxRecDepth 20000 in
theorem ggX5_init_X3_init : GoodIn wsX5_init wsX3_init := goodIn_r _ [26, 27, 2, 3, 28, 29, 70, 71] (by decide +kernel) (by decide +kernel)
set_option maxRecDepth 20000 in
theorem gX5_init_X3_init_n9 : GoodIn wsX5_init (wsX3_init) := ggX5_init_X3_init
set_option maxRecDepth 20000 in
theorem ggX5_init_X1_init : GoodIn wsX5_init wsX1_init := goodIn_r _ [32, 33, 2, 3, 34, 35, 36, 37, 38, 39, 40, 41, 42, 43, 44, 45, 78, 79, 80, 81, 82, 83, 84, 85] (by decide +kernel) (by decide +kernel)
set_option maxRecDepth 20000 in
theorem gX5_init_X1_init : GoodIn wsX5_init (wsX1_init) := ggX5_init_X1_init
set_option maxRecDepth 20000 in
theorem ggX5_init_X0_init : GoodIn wsX5_init wsX0_init := goodIn_r _ [48, 49, 2, 3, 37, 50, 51, 52, 53, 54, 55, 56, 86, 87, 88, 89, 90, 91] (by decide +kernel) (by decide +kernel)
set_option maxRecDepth 20000 in
theorem gX5_init_X0_init : GoodIn wsX5_init (wsX0_init) := ggX5_init_X0_init
set_option maxRecDepth 20000 in
theorem ggX5_init_X2_init : GoodIn wsX5_init wsX2_init := goodIn_r _ [58, 59, 2, 3, 60, 61, 62, 92, 93] (by decide +kernel) (by decide +kernel)
set_option maxRecDepth 20000 in
theorem gX5_init_X2_init_n39 : GoodIn wsX5_init (wsX2_init) := ggX5_init_X2_init
set_option maxRecDepth 20000 in
theorem ggX5_init_X4_init : GoodIn wsX5_init wsX4_init := goodIn_r _ [64, 65, 2, 3, 37, 66, 67, 68, 69, 94, 95, 96, 97] (by decide +kernel) (by decide +kernel)
set_option maxRecDepth 20000 in
theorem gX5_init_X4_init_n46 : GoodIn wsX5_init (wsX4_init) := ggX5_init_X4_init
theorem dX5_init_0 : decode cX5_init 0 = .ok (.aload_n 0, 1) := by decide +kernel
theorem dX5_init_1 : decode cX5_init 1 = .ok (.invokespecial 1, 3) := by decide +kernel
theorem dX5_init_4 : decode cX5_init 4 = .ok (.aload_n 0, 1) := by decide +kernel
theorem dX5_init_5 : decode cX5_init 5 = .ok (.new 7, 3) := by decide +kernel
theorem dX5_init_8 : decode cX5_init 8 = .ok (.dup, 1) := by decide +kernel
theorem dX5_init_9 : decode cX5_init 9 = .ok (.invokespecial 9, 3) := by decide +kernel
theorem dX5_init_12 : decode cX5_init 12 = .ok (.putfield 10, 3) := by decide +kernel
theorem dX5_init_15 : decode cX5_init 15 = .ok (.aload_n 0, 1) := by decide +kernel
theorem dX5_init_16 : decode cX5_init 16 = .ok (.new 16, 3) := by decide +kernel
theorem dX5_init_19 : decode cX5_init 19 = .ok (.dup, 1) := by decide +kernel
theorem dX5_init_20 : decode cX5_init 20 = .ok (.aload_n 0, 1) := by decide +kernel
theorem dX5_init_21 : decode cX5_init 21 = .ok (.getfield 10, 3) := by decide +kernel
theorem dX5_init_24 : decode cX5_init 24 = .ok (.bipush 6, 2) := by decide +kernel
theorem dX5_init_26 : decode cX5_init 26 = .ok (.invokespecial 18, 3) := by decide +kernel
theorem dX5_init_29 : decode cX5_init 29 = .ok (.putfield 21, 3) := by decide +kernel
theorem dX5_init_32 : decode cX5_init 32 = .ok (.aload_n 0, 1) := by decide +kernel
theorem dX5_init_33 : decode cX5_init 33 = .ok (.new 16, 3) := by decide +kernel
theorem dX5_init_36 : decode cX5_init 36 = .ok (.dup, 1) := by decide +kernel
theorem dX5_init_37 : decode cX5_init 37 = .ok (.aload_n 0, 1) := by decide +kernel
theorem dX5_init_38 : decode cX5_init 38 = .ok (.getfield 10, 3) := by decide +kernel
theorem dX5_init_41 : decode cX5_init 41 = .ok (.iconst 4, 1) := by decide +kernel
theorem dX5_init_42 : decode cX5_init 42 = .ok (.invokespecial 18, 3) := by decide +kernel
theorem dX5_init_45 : decode cX5_init 45 = .ok (.putfield 25, 3) := by decide +kernel
theorem dX5_init_48 : decode cX5_init 48 = .ok (.aload_n 0, 1) := by decide +kernel
theorem dX5_init_49 : decode cX5_init 49 = .ok (.new 28, 3) := by decide +kernel
theorem dX5_init_52 : decode cX5_init 52 = .ok (.dup, 1) := by decide +kernel
theorem dX5_init_53 : decode cX5_init 53 = .ok (.aload_n 0, 1) := by decide +kernel
theorem dX5_init_54 : decode cX5_init 54 = .ok (.getfield 25, 3) := by decide +kernel
theorem dX5_init_57 : decode cX5_init 57 = .ok (.invokespecial 30, 3) := by decide +kernel
theorem dX5_init_60 : decode cX5_init 60 = .ok (.putfield 33, 3) := by decide +kernel
theorem dX5_init_63 : decode cX5_init 63 = .ok (.aload_n 0, 1) := by decide +kernel
theorem dX5_init_64 : decode cX5_init 64 = .ok (.new 37, 3) := by decide +kernel
theorem dX5_init_67 : decode cX5_init 67 = .ok (.dup, 1) := by decide +kernel
theorem dX5_init_68 : decode cX5_init 68 = .ok (.invokespecial 39, 3) := by decide +kernel
theorem dX5_init_71 : decode cX5_init 71 = .ok (.putfield 40, 3) := by decide +kernel
theorem dX5_init_74 : decode cX5_init 74 = .ok (.aload_n 0, 1) := by decide +kernel
theorem dX5_init_75 : decode cX5_init 75 = .ok (.new 44, 3) := by decide +kernel
theorem dX5_init_78 : decode cX5_init 78 = .ok (.dup, 1) := by decide +kernel
theorem dX5_init_79 : decode cX5_init 79 = .ok (.invokespecial 46, 3) := by decide +kernel
theorem dX5_init_82 : decode cX5_init 82 = .ok (.putfield 47, 3) := by decide +kernel
theorem dX5_init_85 : decode cX5_init 85 = .ok (.return_, 1) := by decide +kernel
set_option maxRecDepth 20000 in
theorem ggX5_item_X5_isOutside : GoodIn wsX5_item wsX5_isOutside := goodIn_r _ [5] (by decide +kernel) (by decide +kernel)
set_option maxRecDepth 20000 in
theorem gX5_item_X5_isOutside : GoodIn wsX5_item (va_wsS RX5 51 yX5_isOutside wsX5_isOutside) := goodIn_app (goodIn_of _ (by decide +kernel)) ggX5_item_X5_isOutside
set_option maxRecDepth 20000 in
theorem ggX5_item_X1_place : GoodIn wsX5_item wsX1_place := goodIn_r _ [10, 11, 12, 13, 14, 15, 16, 17, 24, 25, 26, 27, 28, 29, 30, 31] (by decide +kernel) (by decide +kernel)
set_option maxRecDepth 20000 in
theorem gX5_item_X1_place : GoodIn wsX5_item (wsV RX5 59 RX1 yX1_place wsX1_place) := goodIn_app (goodIn_of _ (by decide +kernel)) ggX5_item_X1_place
theorem dX5_item_0 : decode cX5_item 0 = .ok (.iload_n 1, 1) := by decide +kernel
theorem dX5_item_1 : decode cX5_item 1 = .ok (.iconst 1, 1) := by decide +kernel
theorem dX5_item_2 : decode cX5_item 2 = .ok (.bipush 100, 2) := by decide +kernel
theorem dX5_item_4 : decode cX5_item 4 = .ok (.invokestatic 51, 3) := by decide +kernel
theorem dX5_item_7 : decode cX5_item 7 = .ok (.ifCond .eq 7, 3) := by decide +kernel
theorem dX5_item_10 : decode cX5_item 10 = .ok (.sipush (-1002), 3) := by decide +kernel
theorem dX5_item_13 : decode cX5_item 13 = .ok (.ireturn, 1) := by decide +kernel
theorem dX5_item_14 : decode cX5_item 14 = .ok (.aload_n 0, 1) := by decide +kernel
theorem dX5_item_15 : decode cX5_item 15 = .ok (.getfield 21, 3) := by decide +kernel
theorem dX5_item_18 : decode cX5_item 18 = .ok (.getfield 55, 3) := by decide +kernel
theorem dX5_item_21 : decode cX5_item 21 = .ok (.bipush 6, 2) := by decide +kernel
theorem dX5_item_23 : decode cX5_item 23 = .ok (.if_icmp .lt 7, 3) := by decide +kernel
theorem dX5_item_26 : decode cX5_item 26 = .ok (.sipush (-1004), 3) := by decide +kernel
theorem dX5_item_29 : decode cX5_item 29 = .ok (.ireturn, 1) := by decide +kernel
theorem dX5_item_30 : decode cX5_item 30 = .ok (.aload_n 0, 1) := by decide +kernel
theorem dX5_item_31 : decode cX5_item 31 = .ok (.getfield 21, 3) := by decide +kernel
theorem dX5_item_34 : decode cX5_item 34 = .ok (.getfield 55, 3) := by decide +kernel
theorem dX5_item_37 : decode cX5_item 37 = .ok (.istore_n 2, 1) := by decide +kernel
theorem dX5_item_38 : decode cX5_item 38 = .ok (.aload_n 0, 1) := by decide +kernel
theorem dX5_item_39 : decode cX5_item 39 = .ok (.getfield 21, 3) := by decide +kernel
theorem dX5_item_42 : decode cX5_item 42 = .ok (.iload_n 2, 1) := by decide +kernel
theorem dX5_item_43 : decode cX5_item 43 = .ok (.iload_n 1, 1) := by decide +kernel
theorem dX5_item_44 : decode cX5_item 44 = .ok (.invokevirtual 59, 3) := by decide +kernel
theorem dX5_item_47 : decode cX5_item 47 = .ok (.iload_n 2, 1) := by decide +kernel
theorem dX5_item_48 : decode cX5_item 48 = .ok (.ireturn, 1) := by decide +kernel
set_option maxRecDepth 20000 in
theorem ggX5_set_X5_isOutside : GoodIn wsX5_set wsX5_isOutside := goodIn_r _ [5] (by decide +kernel) (by decide +kernel)
set_option maxRecDepth 20000 in
theorem gX5_set_X5_isOutside : GoodIn wsX5_set (va_wsS RX5 51 yX5_isOutside wsX5_isOutside) := goodIn_app (goodIn_of _ (by decide +kernel)) ggX5_set_X5_isOutside
set_option maxRecDepth 20000 in
theorem ggX5_set_X1_itemAt : GoodIn wsX5_set wsX1_itemAt := goodIn_r _ [10, 11, 12, 28, 29, 30, 31, 32, 33, 34, 35] (by decide +kernel) (by decide +kernel)
set_option maxRecDepth 20000 in
theorem gX5_set_X1_itemAt : GoodIn wsX5_set (wsV RX5 63 RX1 yX1_itemAt wsX1_itemAt) := goodIn_app (goodIn_of _ (by decide +kernel)) ggX5_set_X1_itemAt
set_option maxRecDepth 20000 in
theorem ggX5_set_X1_place : GoodIn wsX5_set wsX1_place := goodIn_r _ [16, 11, 12, 17, 18, 19, 20, 21, 28, 29, 30, 31, 32, 33, 34, 35] (by decide +kernel) (by decide +kernel)
set_option maxRecDepth 20000 in
theorem gX5_set_X1_place : GoodIn wsX5_set (wsV RX5 59 RX1 yX1_place wsX1_place) := goodIn_app (goodIn_of _ (by decide +kernel)) ggX5_set_X1_place
theorem dX5_set_0 : decode cX5_set 0 = .ok (.iload_n 1, 1) := by decide +kernel
theorem dX5_set_1 : decode cX5_set 1 = .ok (.iconst 0, 1) := by decide +kernel
theorem dX5_set_2 : decode cX5_set 2 = .ok (.aload_n 0, 1) := by decide +kernel
theorem dX5_set_3 : decode cX5_set 3 = .ok (.getfield 21, 3) := by decide +kernel
theorem dX5_set_6 : decode cX5_set 6 = .ok (.getfield 55, 3) := by decide +kernel
theorem dX5_set_9 : decode cX5_set 9 = .ok (.iconst 1, 1) := by decide +kernel
theorem dX5_set_10 : decode cX5_set 10 = .ok (.isub, 1) := by decide +kernel
theorem dX5_set_11 : decode cX5_set 11 = .ok (.invokestatic 51, 3) := by decide +kernel
theorem dX5_set_14 : decode cX5_set 14 = .ok (.ifCond .eq 7, 3) := by decide +kernel
theorem dX5_set_17 : decode cX5_set 17 = .ok (.sipush (-1001), 3) := by decide +kernel
theorem dX5_set_20 : decode cX5_set 20 = .ok (.ireturn, 1) := by decide +kernel
theorem dX5_set_21 : decode cX5_set 21 = .ok (.iload_n 2, 1) := by decide +kernel
theorem dX5_set_22 : decode cX5_set 22 = .ok (.iconst 1, 1) := by decide +kernel
theorem dX5_set_23 : decode cX5_set 23 = .ok (.bipush 100, 2) := by decide +kernel
theorem dX5_set_25 : decode cX5_set 25 = .ok (.invokestatic 51, 3) := by decide +kernel
theorem dX5_set_28 : decode cX5_set 28 = .ok (.ifCond .eq 7, 3) := by decide +kernel
theorem dX5_set_31 : decode cX5_set 31 = .ok (.sipush (-1002), 3) := by decide +kernel
theorem dX5_set_34 : decode cX5_set 34 = .ok (.ireturn, 1) := by decide +kernel
theorem dX5_set_35 : decode cX5_set 35 = .ok (.aload_n 0, 1) := by decide +kernel
theorem dX5_set_36 : decode cX5_set 36 = .ok (.getfield 21, 3) := by decide +kernel
theorem dX5_set_39 : decode cX5_set 39 = .ok (.iload_n 1, 1) := by decide +kernel
theorem dX5_set_40 : decode cX5_set 40 = .ok (.invokevirtual 63, 3) := by decide +kernel
theorem dX5_set_43 : decode cX5_set 43 = .ok (.istore_n 3, 1) := by decide +kernel
theorem dX5_set_44 : decode cX5_set 44 = .ok (.aload_n 0, 1) := by decide +kernel
theorem dX5_set_45 : decode cX5_set 45 = .ok (.getfield 21, 3) := by decide +kernel
theorem dX5_set_48 : decode cX5_set 48 = .ok (.iload_n 1, 1) := by decide +kernel
theorem dX5_set_49 : decode cX5_set 49 = .ok (.iload_n 2, 1) := by decide +kernel
theorem dX5_set_50 : decode cX5_set 50 = .ok (.invokevirtual 59, 3) := by decide +kernel
theorem dX5_set_53 : decode cX5_set 53 = .ok (.iload_n 3, 1) := by decide +kernel
theorem dX5_set_54 : decode cX5_set 54 = .ok (.ireturn, 1) := by decide +kernel
set_option maxRecDepth 20000 in
theorem ggX5_cut_X5_isOutside : GoodIn wsX5_cut wsX5_isOutside := goodIn_r _ [5] (by decide +kernel) (by decide +kernel)
set_option maxRecDepth 20000 in
theorem gX5_cut_X5_isOutside : GoodIn wsX5_cut (va_wsS RX5 51 yX5_isOutside wsX5_isOutside) := goodIn_app (goodIn_of _ (by decide +kernel)) ggX5_cut_X5_isOutside
set_option maxRecDepth 20000 in
theorem ggX5_cut_X1_shorten : GoodIn wsX5_cut wsX1_shorten := goodIn_r _ [10, 11, 12, 13, 14, 15, 16, 23, 24, 25, 26, 27, 28, 29, 30] (by decide +kernel) (by decide +kernel)
set_option maxRecDepth 20000 in
theorem gX5_cut_X1_shorten : GoodIn wsX5_cut (wsV RX5 67 RX1 yX1_shorten wsX1_shorten) := goodIn_app (goodIn_of _ (by decide +kernel)) ggX5_cut_X1_shorten
theorem dX5_cut_0 : decode cX5_cut 0 = .ok (.iload_n 1, 1) := by decide +kernel
theorem dX5_cut_1 : decode cX5_cut 1 = .ok (.iconst 0, 1) := by decide +kernel
theorem dX5_cut_2 : decode cX5_cut 2 = .ok (.aload_n 0, 1) := by decide +kernel
theorem dX5_cut_3 : decode cX5_cut 3 = .ok (.getfield 21, 3) := by decide +kernel
theorem dX5_cut_6 : decode cX5_cut 6 = .ok (.getfield 55, 3) := by decide +kernel
theorem dX5_cut_9 : decode cX5_cut 9 = .ok (.invokestatic 51, 3) := by decide +kernel
theorem dX5_cut_12 : decode cX5_cut 12 = .ok (.ifCond .eq 7, 3) := by decide +kernel
theorem dX5_cut_15 : decode cX5_cut 15 = .ok (.sipush (-1002), 3) := by decide +kernel
theorem dX5_cut_18 : decode cX5_cut 18 = .ok (.ireturn, 1) := by decide +kernel
theorem dX5_cut_19 : decode cX5_cut 19 = .ok (.aload_n 0, 1) := by decide +kernel
theorem dX5_cut_20 : decode cX5_cut 20 = .ok (.getfield 21, 3) := by decide +kernel
theorem dX5_cut_23 : decode cX5_cut 23 = .ok (.getfield 55, 3) := by decide +kernel
theorem dX5_cut_26 : decode cX5_cut 26 = .ok (.iload_n 1, 1) := by decide +kernel
theorem dX5_cut_27 : decode cX5_cut 27 = .ok (.isub, 1) := by decide +kernel
theorem dX5_cut_28 : decode cX5_cut 28 = .ok (.istore_n 2, 1) := by decide +kernel
theorem dX5_cut_29 : decode cX5_cut 29 = .ok (.aload_n 0, 1) := by decide +kernel
theorem dX5_cut_30 : decode cX5_cut 30 = .ok (.getfield 21, 3) := by decide +kernel
theorem dX5_cut_33 : decode cX5_cut 33 = .ok (.iload_n 1, 1) := by decide +kernel
theorem dX5_cut_34 : decode cX5_cut 34 = .ok (.invokevirtual 67, 3) := by decide +kernel
theorem dX5_cut_37 : decode cX5_cut 37 = .ok (.iload_n 2, 1) := by decide +kernel
theorem dX5_cut_38 : decode cX5_cut 38 = .ok (.ireturn, 1) := by decide +kernel
set_option maxRecDepth 20000 in
theorem ggX5_rule_X5_isOutside : GoodIn wsX5_rule wsX5_isOutside := goodIn_r _ [8] (by decide +kernel) (by decide +kernel)
set_option maxRecDepth 20000 in
theorem gX5_rule_X5_isOutside : GoodIn wsX5_rule (va_wsS RX5 51 yX5_isOutside wsX5_isOutside) := goodIn_app (goodIn_of _ (by decide +kernel)) ggX5_rule_X5_isOutside
set_option maxRecDepth 20000 in
theorem ggX5_rule_X1_changeEverySet : GoodIn wsX5_rule wsX1_changeEverySet := goodIn_r _ [13, 14, 15, 30, 31, 32, 33, 34, 35, 36, 37] (by decide +kernel) (by decide +kernel)
set_option maxRecDepth 20000 in
theorem gX5_rule_X1_changeEverySet : GoodIn wsX5_rule (wsV RX5 77 RX1 yX1_changeEverySet wsX1_changeEverySet) := goodIn_app (goodIn_of _ (by decide +kernel)) ggX5_rule_X1_changeEverySet
set_option maxRecDepth 20000 in
theorem ggX5_rule_X0_forgetTallies : GoodIn wsX5_rule wsX0_forgetTallies := goodIn_r _ [20, 21, 38, 39, 40, 41, 42, 43] (by decide +kernel) (by decide +kernel)
set_option maxRecDepth 20000 in
theorem gX5_rule_X0_forgetTallies : GoodIn wsX5_rule (wsV RX5 80 RX0 yX0_forgetTallies wsX0_forgetTallies) := goodIn_app (goodIn_of _ (by decide +kernel)) ggX5_rule_X0_forgetTallies
theorem dX5_rule_0 : decode cX5_rule 0 = .ok (.iload_n 1, 1) := by decide +kernel
theorem dX5_rule_1 : decode cX5_rule 1 = .ok (.ifCond .ne 13, 3) := by decide +kernel
theorem dX5_rule_4 : decode cX5_rule 4 = .ok (.iload_n 2, 1) := by decide +kernel
theorem dX5_rule_5 : decode cX5_rule 5 = .ok (.iconst 0, 1) := by decide +kernel
theorem dX5_rule_6 : decode cX5_rule 6 = .ok (.bipush 15, 2) := by decide +kernel
theorem dX5_rule_8 : decode cX5_rule 8 = .ok (.invokestatic 51, 3) := by decide +kernel
theorem dX5_rule_11 : decode cX5_rule 11 = .ok (.goto 11, 3) := by decide +kernel
theorem dX5_rule_14 : decode cX5_rule 14 = .ok (.iload_n 2, 1) := by decide +kernel
theorem dX5_rule_15 : decode cX5_rule 15 = .ok (.iconst 1, 1) := by decide +kernel
theorem dX5_rule_16 : decode cX5_rule 16 = .ok (.sipush 3000, 3) := by decide +kernel
theorem dX5_rule_19 : decode cX5_rule 19 = .ok (.invokestatic 51, 3) := by decide +kernel
theorem dX5_rule_22 : decode cX5_rule 22 = .ok (.istore_n 3, 1) := by decide +kernel
theorem dX5_rule_23 : decode cX5_rule 23 = .ok (.iload_n 1, 1) := by decide +kernel
theorem dX5_rule_24 : decode cX5_rule 24 = .ok (.iconst 0, 1) := by decide +kernel
theorem dX5_rule_25 : decode cX5_rule 25 = .ok (.iconst 1, 1) := by decide +kernel
theorem dX5_rule_26 : decode cX5_rule 26 = .ok (.invokestatic 51, 3) := by decide +kernel
theorem dX5_rule_29 : decode cX5_rule 29 = .ok (.ifCond .ne 7, 3) := by decide +kernel
theorem dX5_rule_32 : decode cX5_rule 32 = .ok (.iload_n 3, 1) := by decide +kernel
theorem dX5_rule_33 : decode cX5_rule 33 = .ok (.ifCond .eq 7, 3) := by decide +kernel
theorem dX5_rule_36 : decode cX5_rule 36 = .ok (.sipush (-1002), 3) := by decide +kernel
theorem dX5_rule_39 : decode cX5_rule 39 = .ok (.ireturn, 1) := by decide +kernel
theorem dX5_rule_40 : decode cX5_rule 40 = .ok (.iload_n 1, 1) := by decide +kernel
theorem dX5_rule_41 : decode cX5_rule 41 = .ok (.ifCond .ne 13, 3) := by decide +kernel
theorem dX5_rule_44 : decode cX5_rule 44 = .ok (.aload_n 0, 1) := by decide +kernel
theorem dX5_rule_45 : decode cX5_rule 45 = .ok (.getfield 10, 3) := by decide +kernel
theorem dX5_rule_48 : decode cX5_rule 48 = .ok (.getfield 71, 3) := by decide +kernel
theorem dX5_rule_51 : decode cX5_rule 51 = .ok (.goto 10, 3) := by decide +kernel
theorem dX5_rule_54 : decode cX5_rule 54 = .ok (.aload_n 0, 1) := by decide +kernel
theorem dX5_rule_55 : decode cX5_rule 55 = .ok (.getfield 10, 3) := by decide +kernel
theorem dX5_rule_58 : decode cX5_rule 58 = .ok (.getfield 74, 3) := by decide +kernel
theorem dX5_rule_61 : decode cX5_rule 61 = .ok (.istore 4, 2) := by decide +kernel
theorem dX5_rule_63 : decode cX5_rule 63 = .ok (.iload_n 1, 1) := by decide +kernel
theorem dX5_rule_64 : decode cX5_rule 64 = .ok (.ifCond .ne 14, 3) := by decide +kernel
theorem dX5_rule_67 : decode cX5_rule 67 = .ok (.aload_n 0, 1) := by decide +kernel
theorem dX5_rule_68 : decode cX5_rule 68 = .ok (.getfield 10, 3) := by decide +kernel
theorem dX5_rule_71 : decode cX5_rule 71 = .ok (.iload_n 2, 1) := by decide +kernel
theorem dX5_rule_72 : decode cX5_rule 72 = .ok (.putfield 71, 3) := by decide +kernel
theorem dX5_rule_75 : decode cX5_rule 75 = .ok (.goto 11, 3) := by decide +kernel
theorem dX5_rule_78 : decode cX5_rule 78 = .ok (.aload_n 0, 1) := by decide +kernel
theorem dX5_rule_79 : decode cX5_rule 79 = .ok (.getfield 10, 3) := by decide +kernel
theorem dX5_rule_82 : decode cX5_rule 82 = .ok (.iload_n 2, 1) := by decide +kernel
theorem dX5_rule_83 : decode cX5_rule 83 = .ok (.putfield 74, 3) := by decide +kernel
theorem dX5_rule_86 : decode cX5_rule 86 = .ok (.aload_n 0, 1) := by decide +kernel
theorem dX5_rule_87 : decode cX5_rule 87 = .ok (.getfield 21, 3) := by decide +kernel
theorem dX5_rule_90 : decode cX5_rule 90 = .ok (.invokevirtual 77, 3) := by decide +kernel
theorem dX5_rule_93 : decode cX5_rule 93 = .ok (.aload_n 0, 1) := by decide +kernel
theorem dX5_rule_94 : decode cX5_rule 94 = .ok (.getfield 25, 3) := by decide +kernel
theorem dX5_rule_97 : decode cX5_rule 97 = .ok (.invokevirtual 77, 3) := by decide +kernel
theorem dX5_rule_100 : decode cX5_rule 100 = .ok (.aload_n 0, 1) := by decide +kernel
theorem dX5_rule_101 : decode cX5_rule 101 = .ok (.getfield 33, 3) := by decide +kernel
theorem dX5_rule_104 : decode cX5_rule 104 = .ok (.invokevirtual 80, 3) := by decide +kernel
theorem dX5_rule_107 : decode cX5_rule 107 = .ok (.iload 4, 2) := by decide +kernel
theorem dX5_rule_109 : decode cX5_rule 109 = .ok (.ireturn, 1) := by decide +kernel
set_option maxRecDepth 20000 in
theorem ggX5_told_X5_isOutside : GoodIn wsX5_told wsX5_isOutside := goodIn_r _ [8] (by decide +kernel) (by decide +kernel)
set_option maxRecDepth 20000 in
theorem gX5_told_X5_isOutside : GoodIn wsX5_told (va_wsS RX5 51 yX5_isOutside wsX5_isOutside) := goodIn_app (goodIn_of _ (by decide +kernel)) ggX5_told_X5_isOutside
set_option maxRecDepth 20000 in
theorem ggX5_told_X1_itemAt : GoodIn wsX5_told wsX1_itemAt := goodIn_r _ [13, 14, 15, 29, 30, 31, 32, 33, 34, 35, 36] (by decide +kernel) (by decide +kernel)
set_option maxRecDepth 20000 in
theorem gX5_told_X1_itemAt : GoodIn wsX5_told (wsV RX5 63 RX1 yX1_itemAt wsX1_itemAt) := goodIn_app (goodIn_of _ (by decide +kernel)) ggX5_told_X1_itemAt
set_option maxRecDepth 20000 in
theorem ggX5_told_X0_cardAt : GoodIn wsX5_told wsX0_cardAt := goodIn_r _ [20, 21, 22, 39, 40, 41, 42, 43, 44] (by decide +kernel) (by decide +kernel)
set_option maxRecDepth 20000 in
theorem gX5_told_X0_cardAt : GoodIn wsX5_told (wsV RX5 87 RX0 yX0_cardAt wsX0_cardAt) := goodIn_app (goodIn_of _ (by decide +kernel)) ggX5_told_X0_cardAt
theorem dX5_told_0 : decode cX5_told 0 = .ok (.iload_n 1, 1) := by decide +kernel
theorem dX5_told_1 : decode cX5_told 1 = .ok (.tableswitch 75 0 4 #[35, 43, 51, 59, 67], 35) := by decide +kernel
theorem dX5_told_36 : decode cX5_told 36 = .ok (.aload_n 0, 1) := by decide +kernel
theorem dX5_told_37 : decode cX5_told 37 = .ok (.getfield 21, 3) := by decide +kernel
theorem dX5_told_40 : decode cX5_told 40 = .ok (.getfield 55, 3) := by decide +kernel
theorem dX5_told_43 : decode cX5_told 43 = .ok (.ireturn, 1) := by decide +kernel
theorem dX5_told_44 : decode cX5_told 44 = .ok (.aload_n 0, 1) := by decide +kernel
theorem dX5_told_45 : decode cX5_told 45 = .ok (.getfield 10, 3) := by decide +kernel
theorem dX5_told_48 : decode cX5_told 48 = .ok (.getfield 71, 3) := by decide +kernel
theorem dX5_told_51 : decode cX5_told 51 = .ok (.ireturn, 1) := by decide +kernel
theorem dX5_told_52 : decode cX5_told 52 = .ok (.aload_n 0, 1) := by decide +kernel
theorem dX5_told_53 : decode cX5_told 53 = .ok (.getfield 10, 3) := by decide +kernel
theorem dX5_told_56 : decode cX5_told 56 = .ok (.getfield 74, 3) := by decide +kernel
theorem dX5_told_59 : decode cX5_told 59 = .ok (.ireturn, 1) := by decide +kernel
theorem dX5_told_60 : decode cX5_told 60 = .ok (.aload_n 0, 1) := by decide +kernel
theorem dX5_told_61 : decode cX5_told 61 = .ok (.getfield 33, 3) := by decide +kernel
theorem dX5_told_64 : decode cX5_told 64 = .ok (.getfield 83, 3) := by decide +kernel
theorem dX5_told_67 : decode cX5_told 67 = .ok (.ireturn, 1) := by decide +kernel
theorem dX5_told_68 : decode cX5_told 68 = .ok (.aload_n 0, 1) := by decide +kernel
theorem dX5_told_69 : decode cX5_told 69 = .ok (.getfield 40, 3) := by decide +kernel
theorem dX5_told_72 : decode cX5_told 72 = .ok (.getfield 84, 3) := by decide +kernel
theorem dX5_told_75 : decode cX5_told 75 = .ok (.ireturn, 1) := by decide +kernel
theorem dX5_told_76 : decode cX5_told 76 = .ok (.iload_n 1, 1) := by decide +kernel
theorem dX5_told_77 : decode cX5_told 77 = .ok (.bipush 10, 2) := by decide +kernel
theorem dX5_told_79 : decode cX5_told 79 = .ok (.bipush 15, 2) := by decide +kernel
theorem dX5_told_81 : decode cX5_told 81 = .ok (.invokestatic 51, 3) := by decide +kernel
theorem dX5_told_84 : decode cX5_told 84 = .ok (.ifCond .ne 15, 3) := by decide +kernel
theorem dX5_told_87 : decode cX5_told 87 = .ok (.aload_n 0, 1) := by decide +kernel
theorem dX5_told_88 : decode cX5_told 88 = .ok (.getfield 21, 3) := by decide +kernel
theorem dX5_told_91 : decode cX5_told 91 = .ok (.iload_n 1, 1) := by decide +kernel
theorem dX5_told_92 : decode cX5_told 92 = .ok (.bipush 10, 2) := by decide +kernel
theorem dX5_told_94 : decode cX5_told 94 = .ok (.isub, 1) := by decide +kernel
theorem dX5_told_95 : decode cX5_told 95 = .ok (.invokevirtual 63, 3) := by decide +kernel
theorem dX5_told_98 : decode cX5_told 98 = .ok (.ireturn, 1) := by decide +kernel
theorem dX5_told_99 : decode cX5_told 99 = .ok (.iload_n 1, 1) := by decide +kernel
theorem dX5_told_100 : decode cX5_told 100 = .ok (.bipush 20, 2) := by decide +kernel
theorem dX5_told_102 : decode cX5_told 102 = .ok (.bipush 29, 2) := by decide +kernel
theorem dX5_told_104 : decode cX5_told 104 = .ok (.invokestatic 51, 3) := by decide +kernel
theorem dX5_told_107 : decode cX5_told 107 = .ok (.ifCond .ne 15, 3) := by decide +kernel
theorem dX5_told_110 : decode cX5_told 110 = .ok (.aload_n 0, 1) := by decide +kernel
theorem dX5_told_111 : decode cX5_told 111 = .ok (.getfield 33, 3) := by decide +kernel
theorem dX5_told_114 : decode cX5_told 114 = .ok (.iload_n 1, 1) := by decide +kernel
theorem dX5_told_115 : decode cX5_told 115 = .ok (.bipush 20, 2) := by decide +kernel
theorem dX5_told_117 : decode cX5_told 117 = .ok (.isub, 1) := by decide +kernel
theorem dX5_told_118 : decode cX5_told 118 = .ok (.invokevirtual 87, 3) := by decide +kernel
theorem dX5_told_121 : decode cX5_told 121 = .ok (.ireturn, 1) := by decide +kernel
theorem dX5_told_122 : decode cX5_told 122 = .ok (.sipush (-1002), 3) := by decide +kernel
theorem dX5_told_125 : decode cX5_told 125 = .ok (.ireturn, 1) := by decide +kernel
set_option maxRecDepth 20000 in
theorem ggX5_ways_X5_isNoWholeSet : GoodIn wsX5_ways wsX5_isNoWholeSet := goodIn_r _ [7, 2, 8, 9, 10, 11, 12, 13, 59, 60, 61, 62, 63, 64, 65, 66, 67, 68, 69, 70, 71, 72] (by decide +kernel) (by decide +kernel)
set_option maxRecDepth 20000 in
theorem gX5_ways_X5_isNoWholeSet : GoodIn wsX5_ways (wsV RX5 90 RX5 yX5_isNoWholeSet wsX5_isNoWholeSet) := goodIn_app (goodIn_of _ (by decide +kernel)) ggX5_ways_X5_isNoWholeSet
set_option maxRecDepth 20000 in
theorem ggX5_ways_X5_isOutside : GoodIn wsX5_ways wsX5_isOutside := goodIn_r _ [16] (by decide +kernel) (by decide +kernel)
set_option maxRecDepth 20000 in
theorem gX5_ways_X5_isOutside : GoodIn wsX5_ways (va_wsS RX5 51 yX5_isOutside wsX5_isOutside) := goodIn_app (goodIn_of _ (by decide +kernel)) ggX5_ways_X5_isOutside
set_option maxRecDepth 20000 in
theorem ggX5_ways_X1_refresh : GoodIn wsX5_ways wsX1_refresh := goodIn_r _ [20, 21, 22, 23, 24, 25, 11, 26, 27, 28, 29, 30, 9, 10, 12, 13, 31, 32, 33, 34, 35, 36, 37, 38, 39, 40, 41, 42, 43, 44, 45, 46, 47, 48, 49, 50, 51, 52, 53, 54, 65, 66, 67, 68, 69, 70, 71, 72, 73, 74] (by decide +kernel) (by decide +kernel)
set_option maxRecDepth 20000 in
theorem gX5_ways_X1_refresh : GoodIn wsX5_ways (wsV RX5 96 RX1 yX1_refresh wsX1_refresh) := goodIn_app (goodIn_of _ (by decide +kernel)) ggX5_ways_X1_refresh
set_option maxRecDepth 20000 in
theorem ggX5_ways_X1_countOf : GoodIn wsX5_ways wsX1_countOf := goodIn_r _ [58, 28, 65, 66, 67, 68, 69, 70, 71, 72] (by decide +kernel) (by decide +kernel)
set_option maxRecDepth 20000 in
theorem gX5_ways_X1_countOf : GoodIn wsX5_ways (wsV RX5 99 RX1 yX1_countOf wsX1_countOf) := goodIn_app (goodIn_of _ (by decide +kernel)) ggX5_ways_X1_countOf
theorem dX5_ways_0 : decode cX5_ways 0 = .ok (.aload_n 0, 1) := by decide +kernel
theorem dX5_ways_1 : decode cX5_ways 1 = .ok (.iload_n 1, 1) := by decide +kernel
theorem dX5_ways_2 : decode cX5_ways 2 = .ok (.invokevirtual 90, 3) := by decide +kernel
theorem dX5_ways_5 : decode cX5_ways 5 = .ok (.ifCond .ne 14, 3) := by decide +kernel
theorem dX5_ways_8 : decode cX5_ways 8 = .ok (.iload_n 2, 1) := by decide +kernel
theorem dX5_ways_9 : decode cX5_ways 9 = .ok (.iconst 1, 1) := by decide +kernel
theorem dX5_ways_10 : decode cX5_ways 10 = .ok (.sipush 3000, 3) := by decide +kernel
theorem dX5_ways_13 : decode cX5_ways 13 = .ok (.invokestatic 51, 3) := by decide +kernel
theorem dX5_ways_16 : decode cX5_ways 16 = .ok (.ifCond .eq 7, 3) := by decide +kernel
theorem dX5_ways_19 : decode cX5_ways 19 = .ok (.ldc2_w 94, 3) := by decide +kernel
theorem dX5_ways_22 : decode cX5_ways 22 = .ok (.lreturn, 1) := by decide +kernel
theorem dX5_ways_23 : decode cX5_ways 23 = .ok (.aload_n 0, 1) := by decide +kernel
theorem dX5_ways_24 : decode cX5_ways 24 = .ok (.getfield 21, 3) := by decide +kernel
theorem dX5_ways_27 : decode cX5_ways 27 = .ok (.invokevirtual 96, 3) := by decide +kernel
theorem dX5_ways_30 : decode cX5_ways 30 = .ok (.aload_n 0, 1) := by decide +kernel
theorem dX5_ways_31 : decode cX5_ways 31 = .ok (.getfield 21, 3) := by decide +kernel
theorem dX5_ways_34 : decode cX5_ways 34 = .ok (.iload_n 1, 1) := by decide +kernel
theorem dX5_ways_35 : decode cX5_ways 35 = .ok (.iload_n 2, 1) := by decide +kernel
theorem dX5_ways_36 : decode cX5_ways 36 = .ok (.invokevirtual 99, 3) := by decide +kernel
theorem dX5_ways_39 : decode cX5_ways 39 = .ok (.lreturn, 1) := by decide +kernel
set_option maxRecDepth 20000 in
theorem ggX5_all_X5_isOutside : GoodIn wsX5_all wsX5_isOutside := goodIn_r _ [6] (by decide +kernel) (by decide +kernel)
set_option maxRecDepth 20000 in
theorem gX5_all_X5_isOutside : GoodIn wsX5_all (va_wsS RX5 51 yX5_isOutside wsX5_isOutside) := goodIn_app (goodIn_of _ (by decide +kernel)) ggX5_all_X5_isOutside
set_option maxRecDepth 20000 in
theorem ggX5_all_X1_refresh : GoodIn wsX5_all wsX1_refresh := goodIn_r _ [11, 12, 13, 14, 15, 16, 10, 17, 18, 19, 20, 21, 22, 23, 24, 25, 26, 27, 28, 29, 30, 31, 32, 33, 34, 35, 36, 37, 38, 39, 40, 41, 42, 43, 44, 45, 46, 47, 48, 49, 64, 65, 66, 67, 68, 69, 70, 71, 72, 73] (by decide +kernel) (by decide +kernel)
set_option maxRecDepth 20000 in
theorem gX5_all_X1_refresh : GoodIn wsX5_all (wsV RX5 96 RX1 yX1_refresh wsX1_refresh) := goodIn_app (goodIn_of _ (by decide +kernel)) ggX5_all_X1_refresh
set_option maxRecDepth 20000 in
theorem ggX5_all_X1_countOfAllSets : GoodIn wsX5_all wsX1_countOfAllSets := goodIn_r _ [53, 19, 54, 55, 56, 10, 57, 64, 65, 66, 67, 68, 69, 70, 71] (by decide +kernel) (by decide +kernel)
set_option maxRecDepth 20000 in
theorem gX5_all_X1_countOfAllSets : GoodIn wsX5_all (wsV RX5 103 RX1 yX1_countOfAllSets wsX1_countOfAllSets) := goodIn_app (goodIn_of _ (by decide +kernel)) ggX5_all_X1_countOfAllSets
theorem dX5_all_0 : decode cX5_all 0 = .ok (.iload_n 1, 1) := by decide +kernel
theorem dX5_all_1 : decode cX5_all 1 = .ok (.iconst 1, 1) := by decide +kernel
theorem dX5_all_2 : decode cX5_all 2 = .ok (.sipush 3000, 3) := by decide +kernel
theorem dX5_all_5 : decode cX5_all 5 = .ok (.invokestatic 51, 3) := by decide +kernel
theorem dX5_all_8 : decode cX5_all 8 = .ok (.ifCond .eq 7, 3) := by decide +kernel
theorem dX5_all_11 : decode cX5_all 11 = .ok (.ldc2_w 94, 3) := by decide +kernel
theorem dX5_all_14 : decode cX5_all 14 = .ok (.lreturn, 1) := by decide +kernel
theorem dX5_all_15 : decode cX5_all 15 = .ok (.aload_n 0, 1) := by decide +kernel
theorem dX5_all_16 : decode cX5_all 16 = .ok (.getfield 21, 3) := by decide +kernel
theorem dX5_all_19 : decode cX5_all 19 = .ok (.invokevirtual 96, 3) := by decide +kernel
theorem dX5_all_22 : decode cX5_all 22 = .ok (.aload_n 0, 1) := by decide +kernel
theorem dX5_all_23 : decode cX5_all 23 = .ok (.getfield 21, 3) := by decide +kernel
theorem dX5_all_26 : decode cX5_all 26 = .ok (.iload_n 1, 1) := by decide +kernel
theorem dX5_all_27 : decode cX5_all 27 = .ok (.invokevirtual 103, 3) := by decide +kernel
theorem dX5_all_30 : decode cX5_all 30 = .ok (.lreturn, 1) := by decide +kernel
set_option maxRecDepth 20000 in
theorem ggX5_reached_X1_knows : GoodIn wsX5_reached wsX1_knows := goodIn_r _ [6, 7, 68, 69, 70, 71, 72, 73, 74, 75] (by decide +kernel) (by decide +kernel)
set_option maxRecDepth 20000 in
theorem gX5_reached_X1_knows : GoodIn wsX5_reached (wsV RX5 107 RX1 yX1_knows wsX1_knows) := goodIn_app (goodIn_of _ (by decide +kernel)) ggX5_reached_X1_knows
set_option maxRecDepth 20000 in
theorem ggX5_reached_X1_refresh : GoodIn wsX5_reached wsX1_refresh := goodIn_r _ [11, 12, 13, 14, 15, 16, 5, 17, 18, 19, 20, 21, 3, 4, 6, 7, 22, 23, 24, 25, 26, 27, 28, 29, 30, 31, 32, 33, 34, 35, 36, 37, 38, 39, 40, 41, 42, 43, 44, 45, 68, 69, 70, 71, 72, 73, 74, 75, 76, 77] (by decide +kernel) (by decide +kernel)
set_option maxRecDepth 20000 in
theorem gX5_reached_X1_refresh : GoodIn wsX5_reached (wsV RX5 96 RX1 yX1_refresh wsX1_refresh) := goodIn_app (goodIn_of _ (by decide +kernel)) ggX5_reached_X1_refresh
set_option maxRecDepth 20000 in
theorem ggX5_reached_X1_numbersOf : GoodIn wsX5_reached wsX1_numbersOf := goodIn_r _ [49, 50, 51, 52, 5, 53, 54, 55, 56, 57, 20, 58, 59, 60, 61, 19, 68, 69, 70, 71, 72, 73, 74, 75] (by decide +kernel) (by decide +kernel)
set_option maxRecDepth 20000 in
theorem gX5_reached_X1_numbersOf : GoodIn wsX5_reached (wsV RX5 110 RX1 yX1_numbersOf wsX1_numbersOf) := goodIn_app (goodIn_of _ (by decide +kernel)) ggX5_reached_X1_numbersOf
theorem dX5_reached_0 : decode cX5_reached 0 = .ok (.aload_n 0, 1) := by decide +kernel
theorem dX5_reached_1 : decode cX5_reached 1 = .ok (.getfield 21, 3) := by decide +kernel
theorem dX5_reached_4 : decode cX5_reached 4 = .ok (.iload_n 1, 1) := by decide +kernel
theorem dX5_reached_5 : decode cX5_reached 5 = .ok (.invokevirtual 107, 3) := by decide +kernel
theorem dX5_reached_8 : decode cX5_reached 8 = .ok (.ifCond .ne 7, 3) := by decide +kernel
theorem dX5_reached_11 : decode cX5_reached 11 = .ok (.sipush (-1002), 3) := by decide +kernel
theorem dX5_reached_14 : decode cX5_reached 14 = .ok (.ireturn, 1) := by decide +kernel
theorem dX5_reached_15 : decode cX5_reached 15 = .ok (.aload_n 0, 1) := by decide +kernel
theorem dX5_reached_16 : decode cX5_reached 16 = .ok (.getfield 21, 3) := by decide +kernel
theorem dX5_reached_19 : decode cX5_reached 19 = .ok (.invokevirtual 96, 3) := by decide +kernel
theorem dX5_reached_22 : decode cX5_reached 22 = .ok (.aload_n 0, 1) := by decide +kernel
theorem dX5_reached_23 : decode cX5_reached 23 = .ok (.getfield 21, 3) := by decide +kernel
theorem dX5_reached_26 : decode cX5_reached 26 = .ok (.iload_n 1, 1) := by decide +kernel
theorem dX5_reached_27 : decode cX5_reached 27 = .ok (.invokevirtual 110, 3) := by decide +kernel
theorem dX5_reached_30 : decode cX5_reached 30 = .ok (.ireturn, 1) := by decide +kernel
set_option maxRecDepth 20000 in
theorem ggX5_value_X1_knows : GoodIn wsX5_value wsX1_knows := goodIn_r _ [6, 7, 68, 69, 70, 71, 72, 73, 74, 75] (by decide +kernel) (by decide +kernel)
set_option maxRecDepth 20000 in
theorem gX5_value_X1_knows : GoodIn wsX5_value (wsV RX5 107 RX1 yX1_knows wsX1_knows) := goodIn_app (goodIn_of _ (by decide +kernel)) ggX5_value_X1_knows
set_option maxRecDepth 20000 in
theorem ggX5_value_X1_refresh : GoodIn wsX5_value wsX1_refresh := goodIn_r _ [11, 12, 13, 14, 15, 16, 5, 17, 18, 19, 20, 21, 3, 4, 6, 7, 22, 23, 24, 25, 26, 27, 28, 29, 30, 31, 32, 33, 34, 35, 36, 37, 38, 39, 40, 41, 42, 43, 44, 45, 68, 69, 70, 71, 72, 73, 74, 75, 76, 77] (by decide +kernel) (by decide +kernel)
set_option maxRecDepth 20000 in
theorem gX5_value_X1_refresh : GoodIn wsX5_value (wsV RX5 96 RX1 yX1_refresh wsX1_refresh) := goodIn_app (goodIn_of _ (by decide +kernel)) ggX5_value_X1_refresh
set_option maxRecDepth 20000 in
theorem ggX5_value_X1_numberAt : GoodIn wsX5_value wsX1_numberAt := goodIn_r _ [49, 50, 51, 52, 5, 53, 54, 55, 56, 57, 20, 58, 59, 60, 61, 19, 68, 69, 70, 71, 72, 73, 74, 75] (by decide +kernel) (by decide +kernel)
set_option maxRecDepth 20000 in
theorem gX5_value_X1_numberAt : GoodIn wsX5_value (wsV RX5 113 RX1 yX1_numberAt wsX1_numberAt) := goodIn_app (goodIn_of _ (by decide +kernel)) ggX5_value_X1_numberAt
theorem dX5_value_0 : decode cX5_value 0 = .ok (.aload_n 0, 1) := by decide +kernel
theorem dX5_value_1 : decode cX5_value 1 = .ok (.getfield 21, 3) := by decide +kernel
theorem dX5_value_4 : decode cX5_value 4 = .ok (.iload_n 1, 1) := by decide +kernel
theorem dX5_value_5 : decode cX5_value 5 = .ok (.invokevirtual 107, 3) := by decide +kernel
theorem dX5_value_8 : decode cX5_value 8 = .ok (.ifCond .ne 7, 3) := by decide +kernel
theorem dX5_value_11 : decode cX5_value 11 = .ok (.sipush (-1002), 3) := by decide +kernel
theorem dX5_value_14 : decode cX5_value 14 = .ok (.ireturn, 1) := by decide +kernel
theorem dX5_value_15 : decode cX5_value 15 = .ok (.aload_n 0, 1) := by decide +kernel
theorem dX5_value_16 : decode cX5_value 16 = .ok (.getfield 21, 3) := by decide +kernel
theorem dX5_value_19 : decode cX5_value 19 = .ok (.invokevirtual 96, 3) := by decide +kernel
theorem dX5_value_22 : decode cX5_value 22 = .ok (.aload_n 0, 1) := by decide +kernel
theorem dX5_value_23 : decode cX5_value 23 = .ok (.getfield 21, 3) := by decide +kernel
theorem dX5_value_26 : decode cX5_value 26 = .ok (.iload_n 1, 1) := by decide +kernel
theorem dX5_value_27 : decode cX5_value 27 = .ok (.iload_n 2, 1) := by decide +kernel
theorem dX5_value_28 : decode cX5_value 28 = .ok (.invokevirtual 113, 3) := by decide +kernel
theorem dX5_value_31 : decode cX5_value 31 = .ok (.ireturn, 1) := by decide +kernel
set_option maxRecDepth 20000 in
theorem ggX5_missing_X1_refresh : GoodIn wsX5_missing wsX1_refresh := goodIn_r _ [6, 7, 8, 9, 10, 11, 5, 12, 13, 14, 15, 16, 17, 18, 19, 20, 21, 22, 23, 24, 25, 26, 27, 28, 29, 30, 31, 32, 33, 34, 35, 36, 37, 38, 39, 40, 41, 42, 43, 44, 59, 60, 61, 62, 63, 64, 65, 66, 67, 68] (by decide +kernel) (by decide +kernel)
set_option maxRecDepth 20000 in
theorem gX5_missing_X1_refresh : GoodIn wsX5_missing (wsV RX5 96 RX1 yX1_refresh wsX1_refresh) := goodIn_app (goodIn_of _ (by decide +kernel)) ggX5_missing_X1_refresh
set_option maxRecDepth 20000 in
theorem ggX5_missing_X1_leastNotReached : GoodIn wsX5_missing wsX1_leastNotReached := goodIn_r _ [48, 49, 50, 51, 5, 52, 15, 59, 60, 61, 62, 63, 64, 65, 66] (by decide +kernel) (by decide +kernel)
set_option maxRecDepth 20000 in
theorem gX5_missing_X1_leastNotReached : GoodIn wsX5_missing (wsV RX5 117 RX1 yX1_leastNotReached wsX1_leastNotReached) := goodIn_app (goodIn_of _ (by decide +kernel)) ggX5_missing_X1_leastNotReached
theorem dX5_missing_0 : decode cX5_missing 0 = .ok (.aload_n 0, 1) := by decide +kernel
theorem dX5_missing_1 : decode cX5_missing 1 = .ok (.getfield 21, 3) := by decide +kernel
theorem dX5_missing_4 : decode cX5_missing 4 = .ok (.invokevirtual 96, 3) := by decide +kernel
theorem dX5_missing_7 : decode cX5_missing 7 = .ok (.aload_n 0, 1) := by decide +kernel
theorem dX5_missing_8 : decode cX5_missing 8 = .ok (.getfield 21, 3) := by decide +kernel
theorem dX5_missing_11 : decode cX5_missing 11 = .ok (.invokevirtual 117, 3) := by decide +kernel
theorem dX5_missing_14 : decode cX5_missing 14 = .ok (.ireturn, 1) := by decide +kernel
set_option maxRecDepth 20000 in
theorem ggX5_aim_X5_isOutside : GoodIn wsX5_aim wsX5_isOutside := goodIn_r _ [5] (by decide +kernel) (by decide +kernel)
set_option maxRecDepth 20000 in
theorem gX5_aim_X5_isOutside : GoodIn wsX5_aim (va_wsS RX5 51 yX5_isOutside wsX5_isOutside) := goodIn_app (goodIn_of _ (by decide +kernel)) ggX5_aim_X5_isOutside
set_option maxRecDepth 20000 in
theorem ggX5_aim_X1_refresh : GoodIn wsX5_aim wsX1_refresh := goodIn_r _ [10, 11, 12, 13, 14, 15, 9, 16, 17, 18, 19, 20, 21, 22, 23, 24, 25, 26, 27, 28, 29, 30, 31, 32, 33, 34, 35, 36, 37, 38, 39, 40, 41, 42, 43, 44, 45, 46, 47, 48, 80, 81, 82, 83, 84, 85, 86, 87, 88, 89] (by decide +kernel) (by decide +kernel)
set_option maxRecDepth 20000 in
theorem gX5_aim_X1_refresh : GoodIn wsX5_aim (wsV RX5 96 RX1 yX1_refresh wsX1_refresh) := goodIn_app (goodIn_of _ (by decide +kernel)) ggX5_aim_X1_refresh
set_option maxRecDepth 20000 in
theorem ggX5_aim_X1_reaches : GoodIn wsX5_aim wsX1_reaches := goodIn_r _ [52, 19, 80, 81, 82, 83, 84, 85, 86, 87] (by decide +kernel) (by decide +kernel)
set_option maxRecDepth 20000 in
theorem gX5_aim_X1_reaches : GoodIn wsX5_aim (wsV RX5 121 RX1 yX1_reaches wsX1_reaches) := goodIn_app (goodIn_of _ (by decide +kernel)) ggX5_aim_X1_reaches
set_option maxRecDepth 20000 in
theorem ggX5_aim_X1_firstSet : GoodIn wsX5_aim wsX1_firstSet := goodIn_r _ [56, 18, 57, 58, 59, 9, 60, 61, 62, 63, 64, 65, 66, 67, 80, 81, 82, 83, 84, 85, 86, 87] (by decide +kernel) (by decide +kernel)
set_option maxRecDepth 20000 in
theorem gX5_aim_X1_firstSet : GoodIn wsX5_aim (wsV RX5 124 RX1 yX1_firstSet wsX1_firstSet) := goodIn_app (goodIn_of _ (by decide +kernel)) ggX5_aim_X1_firstSet
set_option maxRecDepth 20000 in
theorem ggX5_aim_J6_bitCount_0f7a4 : GoodIn wsX5_aim wsJ6_bitCount_0f7a4 := goodIn_r _ [64, 65, 66, 67] (by decide +kernel) (by decide +kernel)
set_option maxRecDepth 20000 in
theorem gX5_aim_J6_bitCount_0f7a4 : GoodIn wsX5_aim (va_wsS RX5 127 yJ6_bitCount_0f7a4 wsJ6_bitCount_0f7a4) := goodIn_app (goodIn_of _ (by decide +kernel)) ggX5_aim_J6_bitCount_0f7a4
set_option maxRecDepth 20000 in
theorem ggX5_aim_X1_nearest : GoodIn wsX5_aim wsX1_nearest := goodIn_r _ [72, 73, 50, 51, 9, 52, 19, 80, 81, 82, 83, 84, 85, 86, 87] (by decide +kernel) (by decide +kernel)
set_option maxRecDepth 20000 in
theorem gX5_aim_X1_nearest : GoodIn wsX5_aim (wsV RX5 132 RX1 yX1_nearest wsX1_nearest) := goodIn_app (goodIn_of _ (by decide +kernel)) ggX5_aim_X1_nearest
theorem dX5_aim_0 : decode cX5_aim 0 = .ok (.iload_n 1, 1) := by decide +kernel
theorem dX5_aim_1 : decode cX5_aim 1 = .ok (.iconst 1, 1) := by decide +kernel
theorem dX5_aim_2 : decode cX5_aim 2 = .ok (.sipush 3000, 3) := by decide +kernel
theorem dX5_aim_5 : decode cX5_aim 5 = .ok (.invokestatic 51, 3) := by decide +kernel
theorem dX5_aim_8 : decode cX5_aim 8 = .ok (.ifCond .ne 12, 3) := by decide +kernel
theorem dX5_aim_11 : decode cX5_aim 11 = .ok (.iload_n 2, 1) := by decide +kernel
theorem dX5_aim_12 : decode cX5_aim 12 = .ok (.iconst 0, 1) := by decide +kernel
theorem dX5_aim_13 : decode cX5_aim 13 = .ok (.iconst 3, 1) := by decide +kernel
theorem dX5_aim_14 : decode cX5_aim 14 = .ok (.invokestatic 51, 3) := by decide +kernel
theorem dX5_aim_17 : decode cX5_aim 17 = .ok (.ifCond .eq 7, 3) := by decide +kernel
theorem dX5_aim_20 : decode cX5_aim 20 = .ok (.sipush (-1002), 3) := by decide +kernel
theorem dX5_aim_23 : decode cX5_aim 23 = .ok (.ireturn, 1) := by decide +kernel
theorem dX5_aim_24 : decode cX5_aim 24 = .ok (.aload_n 0, 1) := by decide +kernel
theorem dX5_aim_25 : decode cX5_aim 25 = .ok (.getfield 21, 3) := by decide +kernel
theorem dX5_aim_28 : decode cX5_aim 28 = .ok (.invokevirtual 96, 3) := by decide +kernel
end
section
theorem dX5_aim_31 : decode cX5_aim 31 = .ok (.iload_n 2, 1) := by decide +kernel
theorem dX5_aim_32 : decode cX5_aim 32 = .ok (.tableswitch 81 0 2 #[28, 45, 72], 28) := by decide +kernel
theorem dX5_aim_60 : decode cX5_aim 60 = .ok (.aload_n 0, 1) := by decide +kernel
theorem dX5_aim_61 : decode cX5_aim 61 = .ok (.getfield 21, 3) := by decide +kernel
theorem dX5_aim_64 : decode cX5_aim 64 = .ok (.iload_n 1, 1) := by decide +kernel
theorem dX5_aim_65 : decode cX5_aim 65 = .ok (.invokevirtual 121, 3) := by decide +kernel
theorem dX5_aim_68 : decode cX5_aim 68 = .ok (.ifCond .eq 7, 3) := by decide +kernel
theorem dX5_aim_71 : decode cX5_aim 71 = .ok (.iconst 1, 1) := by decide +kernel
theorem dX5_aim_72 : decode cX5_aim 72 = .ok (.goto 4, 3) := by decide +kernel
theorem dX5_aim_75 : decode cX5_aim 75 = .ok (.iconst 0, 1) := by decide +kernel
theorem dX5_aim_76 : decode cX5_aim 76 = .ok (.ireturn, 1) := by decide +kernel
theorem dX5_aim_77 : decode cX5_aim 77 = .ok (.aload_n 0, 1) := by decide +kernel
theorem dX5_aim_78 : decode cX5_aim 78 = .ok (.getfield 21, 3) := by decide +kernel
theorem dX5_aim_81 : decode cX5_aim 81 = .ok (.iload_n 1, 1) := by decide +kernel
theorem dX5_aim_82 : decode cX5_aim 82 = .ok (.invokevirtual 121, 3) := by decide +kernel
theorem dX5_aim_85 : decode cX5_aim 85 = .ok (.ifCond .eq 17, 3) := by decide +kernel
theorem dX5_aim_88 : decode cX5_aim 88 = .ok (.aload_n 0, 1) := by decide +kernel
theorem dX5_aim_89 : decode cX5_aim 89 = .ok (.getfield 21, 3) := by decide +kernel
theorem dX5_aim_92 : decode cX5_aim 92 = .ok (.iload_n 1, 1) := by decide +kernel
theorem dX5_aim_93 : decode cX5_aim 93 = .ok (.invokevirtual 124, 3) := by decide +kernel
theorem dX5_aim_96 : decode cX5_aim 96 = .ok (.invokestatic 127, 3) := by decide +kernel
theorem dX5_aim_99 : decode cX5_aim 99 = .ok (.goto 4, 3) := by decide +kernel
theorem dX5_aim_102 : decode cX5_aim 102 = .ok (.iconst (-1), 1) := by decide +kernel
theorem dX5_aim_103 : decode cX5_aim 103 = .ok (.ireturn, 1) := by decide +kernel
theorem dX5_aim_104 : decode cX5_aim 104 = .ok (.aload_n 0, 1) := by decide +kernel
theorem dX5_aim_105 : decode cX5_aim 105 = .ok (.getfield 21, 3) := by decide +kernel
theorem dX5_aim_108 : decode cX5_aim 108 = .ok (.iload_n 1, 1) := by decide +kernel
theorem dX5_aim_109 : decode cX5_aim 109 = .ok (.invokevirtual 124, 3) := by decide +kernel
theorem dX5_aim_112 : decode cX5_aim 112 = .ok (.ireturn, 1) := by decide +kernel
theorem dX5_aim_113 : decode cX5_aim 113 = .ok (.aload_n 0, 1) := by decide +kernel
theorem dX5_aim_114 : decode cX5_aim 114 = .ok (.getfield 21, 3) := by decide +kernel
theorem dX5_aim_117 : decode cX5_aim 117 = .ok (.iload_n 1, 1) := by decide +kernel
theorem dX5_aim_118 : decode cX5_aim 118 = .ok (.invokevirtual 132, 3) := by decide +kernel
theorem dX5_aim_121 : decode cX5_aim 121 = .ok (.ireturn, 1) := by decide +kernel
set_option maxRecDepth 20000 in
theorem ggX5_print_X5_isOutside : GoodIn wsX5_print wsX5_isOutside := goodIn_r _ [5] (by decide +kernel) (by decide +kernel)
set_option maxRecDepth 20000 in
theorem gX5_print_X5_isOutside : GoodIn wsX5_print (va_wsS RX5 51 yX5_isOutside wsX5_isOutside) := goodIn_app (goodIn_of _ (by decide +kernel)) ggX5_print_X5_isOutside
set_option maxRecDepth 20000 in
theorem ggX5_print_X1_refresh : GoodIn wsX5_print wsX1_refresh := goodIn_r _ [10, 11, 12, 13, 14, 15, 9, 16, 17, 18, 19, 20, 21, 22, 23, 24, 25, 26, 27, 28, 29, 30, 31, 32, 33, 34, 35, 36, 37, 38, 39, 40, 41, 42, 43, 44, 45, 46, 47, 48, 143, 144, 145, 146, 147, 148, 149, 150, 151, 152] (by decide +kernel) (by decide +kernel)
set_option maxRecDepth 20000 in
theorem gX5_print_X1_refresh : GoodIn wsX5_print (wsV RX5 96 RX1 yX1_refresh wsX1_refresh) := goodIn_app (goodIn_of _ (by decide +kernel)) ggX5_print_X1_refresh
set_option maxRecDepth 20000 in
theorem ggX5_print_X1_reaches : GoodIn wsX5_print wsX1_reaches := goodIn_r _ [52, 19, 143, 144, 145, 146, 147, 148, 149, 150] (by decide +kernel) (by decide +kernel)
set_option maxRecDepth 20000 in
theorem gX5_print_X1_reaches : GoodIn wsX5_print (wsV RX5 121 RX1 yX1_reaches wsX1_reaches) := goodIn_app (goodIn_of _ (by decide +kernel)) ggX5_print_X1_reaches
set_option maxRecDepth 20000 in
theorem ggX5_print_X1_firstSet : GoodIn wsX5_print wsX1_firstSet := goodIn_r _ [56, 18, 57, 58, 59, 9, 60, 61, 62, 63, 64, 65, 66, 67, 143, 144, 145, 146, 147, 148, 149, 150] (by decide +kernel) (by decide +kernel)
set_option maxRecDepth 20000 in
theorem gX5_print_X1_firstSet : GoodIn wsX5_print (wsV RX5 124 RX1 yX1_firstSet wsX1_firstSet) := goodIn_app (goodIn_of _ (by decide +kernel)) ggX5_print_X1_firstSet
set_option maxRecDepth 20000 in
theorem ggX5_print_X5_printWay : GoodIn wsX5_print wsX5_printWay := goodIn_r _ [71, 72, 1, 73, 74, 4, 75, 76, 62, 63, 64, 65, 66, 67, 77, 78, 79, 80, 81, 82, 83, 84, 85, 86, 87, 88, 89, 90, 9, 91, 38, 12, 17, 43, 44, 45, 46, 47, 48, 92, 93, 57, 58, 59, 60, 18, 94, 95, 96, 97, 98, 99, 100, 101, 102, 103, 104, 105, 106, 107, 108, 109, 110, 111, 112, 113, 114, 115, 116, 117, 118, 119, 120, 121, 122, 123, 124, 125, 126, 127, 128, 129, 130, 131, 132, 133, 134, 135, 136, 137, 138, 139, 140, 141, 142, 153, 154, 143, 144, 145, 146, 147, 148, 149, 150, 151, 152] (by decide +kernel) (by decide +kernel)
set_option maxRecDepth 20000 in
theorem gX5_print_X5_printWay : GoodIn wsX5_print (wsV RX5 135 RX5 yX5_printWay wsX5_printWay) := goodIn_app (goodIn_of _ (by decide +kernel)) ggX5_print_X5_printWay
theorem dX5_print_0 : decode cX5_print 0 = .ok (.iload_n 1, 1) := by decide +kernel
theorem dX5_print_1 : decode cX5_print 1 = .ok (.iconst 1, 1) := by decide +kernel
theorem dX5_print_2 : decode cX5_print 2 = .ok (.sipush 3000, 3) := by decide +kernel
theorem dX5_print_5 : decode cX5_print 5 = .ok (.invokestatic 51, 3) := by decide +kernel
theorem dX5_print_8 : decode cX5_print 8 = .ok (.ifCond .eq 7, 3) := by decide +kernel
theorem dX5_print_11 : decode cX5_print 11 = .ok (.sipush (-1002), 3) := by decide +kernel
theorem dX5_print_14 : decode cX5_print 14 = .ok (.ireturn, 1) := by decide +kernel
theorem dX5_print_15 : decode cX5_print 15 = .ok (.aload_n 0, 1) := by decide +kernel
theorem dX5_print_16 : decode cX5_print 16 = .ok (.getfield 21, 3) := by decide +kernel
theorem dX5_print_19 : decode cX5_print 19 = .ok (.invokevirtual 96, 3) := by decide +kernel
theorem dX5_print_22 : decode cX5_print 22 = .ok (.aload_n 0, 1) := by decide +kernel
theorem dX5_print_23 : decode cX5_print 23 = .ok (.getfield 21, 3) := by decide +kernel
theorem dX5_print_26 : decode cX5_print 26 = .ok (.iload_n 1, 1) := by decide +kernel
theorem dX5_print_27 : decode cX5_print 27 = .ok (.invokevirtual 121, 3) := by decide +kernel
theorem dX5_print_30 : decode cX5_print 30 = .ok (.ifCond .ne 7, 3) := by decide +kernel
theorem dX5_print_33 : decode cX5_print 33 = .ok (.sipush (-1003), 3) := by decide +kernel
theorem dX5_print_36 : decode cX5_print 36 = .ok (.ireturn, 1) := by decide +kernel
theorem dX5_print_37 : decode cX5_print 37 = .ok (.aload_n 0, 1) := by decide +kernel
theorem dX5_print_38 : decode cX5_print 38 = .ok (.aload_n 0, 1) := by decide +kernel
theorem dX5_print_39 : decode cX5_print 39 = .ok (.getfield 21, 3) := by decide +kernel
theorem dX5_print_42 : decode cX5_print 42 = .ok (.iload_n 1, 1) := by decide +kernel
theorem dX5_print_43 : decode cX5_print 43 = .ok (.invokevirtual 124, 3) := by decide +kernel
theorem dX5_print_46 : decode cX5_print 46 = .ok (.iload_n 1, 1) := by decide +kernel
theorem dX5_print_47 : decode cX5_print 47 = .ok (.invokevirtual 135, 3) := by decide +kernel
theorem dX5_print_50 : decode cX5_print 50 = .ok (.ireturn, 1) := by decide +kernel
set_option maxRecDepth 20000 in
theorem ggX5_printOf_X5_isNoWholeSet : GoodIn wsX5_printOf wsX5_isNoWholeSet := goodIn_r _ [6, 1, 7, 8, 9, 10, 11, 12, 134, 135, 136, 137, 138, 139, 140, 141, 142, 143, 144, 145, 146, 147] (by decide +kernel) (by decide +kernel)
set_option maxRecDepth 20000 in
theorem gX5_printOf_X5_isNoWholeSet : GoodIn wsX5_printOf (wsV RX5 90 RX5 yX5_isNoWholeSet wsX5_isNoWholeSet) := goodIn_app (goodIn_of _ (by decide +kernel)) ggX5_printOf_X5_isNoWholeSet
set_option maxRecDepth 20000 in
theorem ggX5_printOf_X5_isOutside : GoodIn wsX5_printOf wsX5_isOutside := goodIn_r _ [15] (by decide +kernel) (by decide +kernel)
set_option maxRecDepth 20000 in
theorem gX5_printOf_X5_isOutside : GoodIn wsX5_printOf (va_wsS RX5 51 yX5_isOutside wsX5_isOutside) := goodIn_app (goodIn_of _ (by decide +kernel)) ggX5_printOf_X5_isOutside
set_option maxRecDepth 20000 in
theorem ggX5_printOf_X1_refresh : GoodIn wsX5_printOf wsX1_refresh := goodIn_r _ [19, 20, 21, 22, 23, 24, 10, 25, 26, 27, 28, 29, 8, 9, 11, 12, 30, 31, 32, 33, 34, 35, 36, 37, 38, 39, 40, 41, 42, 43, 44, 45, 46, 47, 48, 49, 50, 51, 52, 53, 140, 141, 142, 143, 144, 145, 146, 147, 148, 149] (by decide +kernel) (by decide +kernel)
set_option maxRecDepth 20000 in
theorem gX5_printOf_X1_refresh : GoodIn wsX5_printOf (wsV RX5 96 RX1 yX1_refresh wsX1_refresh) := goodIn_app (goodIn_of _ (by decide +kernel)) ggX5_printOf_X1_refresh
set_option maxRecDepth 20000 in
theorem ggX5_printOf_X1_countOf : GoodIn wsX5_printOf wsX1_countOf := goodIn_r _ [57, 27, 140, 141, 142, 143, 144, 145, 146, 147] (by decide +kernel) (by decide +kernel)
set_option maxRecDepth 20000 in
theorem gX5_printOf_X1_countOf : GoodIn wsX5_printOf (wsV RX5 99 RX1 yX1_countOf wsX1_countOf) := goodIn_app (goodIn_of _ (by decide +kernel)) ggX5_printOf_X1_countOf
set_option maxRecDepth 20000 in
theorem ggX5_printOf_X5_printWay : GoodIn wsX5_printOf wsX5_printWay := goodIn_r _ [61, 62, 1, 63, 64, 5, 65, 66, 67, 68, 69, 70, 71, 72, 73, 74, 75, 76, 77, 78, 79, 80, 81, 82, 83, 84, 85, 86, 10, 87, 43, 21, 26, 48, 49, 50, 51, 52, 53, 88, 89, 90, 55, 56, 57, 27, 91, 92, 93, 94, 95, 96, 97, 98, 99, 100, 101, 102, 103, 104, 105, 106, 107, 108, 109, 110, 111, 112, 113, 114, 115, 116, 117, 118, 119, 120, 121, 122, 123, 124, 125, 126, 127, 128, 129, 130, 131, 132, 133, 134, 135, 136, 137, 138, 139, 150, 151, 140, 141, 142, 143, 144, 145, 146, 147, 148, 149] (by decide +kernel) (by decide +kernel)
set_option maxRecDepth 20000 in
theorem gX5_printOf_X5_printWay : GoodIn wsX5_printOf (wsV RX5 135 RX5 yX5_printWay wsX5_printWay) := goodIn_app (goodIn_of _ (by decide +kernel)) ggX5_printOf_X5_printWay
theorem dX5_printOf_0 : decode cX5_printOf 0 = .ok (.aload_n 0, 1) := by decide +kernel
theorem dX5_printOf_1 : decode cX5_printOf 1 = .ok (.iload_n 1, 1) := by decide +kernel
theorem dX5_printOf_2 : decode cX5_printOf 2 = .ok (.invokevirtual 90, 3) := by decide +kernel
theorem dX5_printOf_5 : decode cX5_printOf 5 = .ok (.ifCond .ne 14, 3) := by decide +kernel
theorem dX5_printOf_8 : decode cX5_printOf 8 = .ok (.iload_n 2, 1) := by decide +kernel
theorem dX5_printOf_9 : decode cX5_printOf 9 = .ok (.iconst 1, 1) := by decide +kernel
theorem dX5_printOf_10 : decode cX5_printOf 10 = .ok (.sipush 3000, 3) := by decide +kernel
theorem dX5_printOf_13 : decode cX5_printOf 13 = .ok (.invokestatic 51, 3) := by decide +kernel
theorem dX5_printOf_16 : decode cX5_printOf 16 = .ok (.ifCond .eq 7, 3) := by decide +kernel
theorem dX5_printOf_19 : decode cX5_printOf 19 = .ok (.sipush (-1002), 3) := by decide +kernel
theorem dX5_printOf_22 : decode cX5_printOf 22 = .ok (.ireturn, 1) := by decide +kernel
theorem dX5_printOf_23 : decode cX5_printOf 23 = .ok (.aload_n 0, 1) := by decide +kernel
theorem dX5_printOf_24 : decode cX5_printOf 24 = .ok (.getfield 21, 3) := by decide +kernel
theorem dX5_printOf_27 : decode cX5_printOf 27 = .ok (.invokevirtual 96, 3) := by decide +kernel
theorem dX5_printOf_30 : decode cX5_printOf 30 = .ok (.aload_n 0, 1) := by decide +kernel
theorem dX5_printOf_31 : decode cX5_printOf 31 = .ok (.getfield 21, 3) := by decide +kernel
theorem dX5_printOf_34 : decode cX5_printOf 34 = .ok (.iload_n 1, 1) := by decide +kernel
theorem dX5_printOf_35 : decode cX5_printOf 35 = .ok (.iload_n 2, 1) := by decide +kernel
theorem dX5_printOf_36 : decode cX5_printOf 36 = .ok (.invokevirtual 99, 3) := by decide +kernel
theorem dX5_printOf_39 : decode cX5_printOf 39 = .ok (.lconst 0, 1) := by decide +kernel
theorem dX5_printOf_40 : decode cX5_printOf 40 = .ok (.lcmp, 1) := by decide +kernel
theorem dX5_printOf_41 : decode cX5_printOf 41 = .ok (.ifCond .ne 7, 3) := by decide +kernel
theorem dX5_printOf_44 : decode cX5_printOf 44 = .ok (.sipush (-1003), 3) := by decide +kernel
theorem dX5_printOf_47 : decode cX5_printOf 47 = .ok (.ireturn, 1) := by decide +kernel
theorem dX5_printOf_48 : decode cX5_printOf 48 = .ok (.aload_n 0, 1) := by decide +kernel
theorem dX5_printOf_49 : decode cX5_printOf 49 = .ok (.iload_n 1, 1) := by decide +kernel
theorem dX5_printOf_50 : decode cX5_printOf 50 = .ok (.iload_n 2, 1) := by decide +kernel
theorem dX5_printOf_51 : decode cX5_printOf 51 = .ok (.invokevirtual 135, 3) := by decide +kernel
theorem dX5_printOf_54 : decode cX5_printOf 54 = .ok (.ireturn, 1) := by decide +kernel
set_option maxRecDepth 20000 in
theorem ggX5_out_X2_byteAt : GoodIn wsX5_out wsX2_byteAt := goodIn_r _ [6, 7, 8, 15, 16] (by decide +kernel) (by decide +kernel)
set_option maxRecDepth 20000 in
theorem gX5_out_X2_byteAt : GoodIn wsX5_out (wsV RX5 138 RX2 yX2_byteAt wsX2_byteAt) := goodIn_app (goodIn_of _ (by decide +kernel)) ggX5_out_X2_byteAt
theorem dX5_out_0 : decode cX5_out 0 = .ok (.aload_n 0, 1) := by decide +kernel
theorem dX5_out_1 : decode cX5_out 1 = .ok (.getfield 40, 3) := by decide +kernel
theorem dX5_out_4 : decode cX5_out 4 = .ok (.iload_n 1, 1) := by decide +kernel
theorem dX5_out_5 : decode cX5_out 5 = .ok (.invokevirtual 138, 3) := by decide +kernel
theorem dX5_out_8 : decode cX5_out 8 = .ok (.ireturn, 1) := by decide +kernel
set_option maxRecDepth 20000 in
theorem ggX5_card_X5_isOutside : GoodIn wsX5_card wsX5_isOutside := goodIn_r _ [5] (by decide +kernel) (by decide +kernel)
set_option maxRecDepth 20000 in
theorem gX5_card_X5_isOutside : GoodIn wsX5_card (va_wsS RX5 51 yX5_isOutside wsX5_isOutside) := goodIn_app (goodIn_of _ (by decide +kernel)) ggX5_card_X5_isOutside
set_option maxRecDepth 20000 in
theorem ggX5_card_X0_put : GoodIn wsX5_card wsX0_put := goodIn_r _ [10, 11, 12, 13, 14, 15, 9, 16, 17, 24, 25, 26, 27, 28, 29] (by decide +kernel) (by decide +kernel)
set_option maxRecDepth 20000 in
theorem gX5_card_X0_put : GoodIn wsX5_card (wsV RX5 141 RX0 yX0_put wsX0_put) := goodIn_app (goodIn_of _ (by decide +kernel)) ggX5_card_X0_put
theorem dX5_card_0 : decode cX5_card 0 = .ok (.iload_n 1, 1) := by decide +kernel
theorem dX5_card_1 : decode cX5_card 1 = .ok (.iconst 1, 1) := by decide +kernel
theorem dX5_card_2 : decode cX5_card 2 = .ok (.bipush 100, 2) := by decide +kernel
theorem dX5_card_4 : decode cX5_card 4 = .ok (.invokestatic 51, 3) := by decide +kernel
theorem dX5_card_7 : decode cX5_card 7 = .ok (.ifCond .eq 7, 3) := by decide +kernel
theorem dX5_card_10 : decode cX5_card 10 = .ok (.sipush (-1002), 3) := by decide +kernel
theorem dX5_card_13 : decode cX5_card 13 = .ok (.ireturn, 1) := by decide +kernel
theorem dX5_card_14 : decode cX5_card 14 = .ok (.aload_n 0, 1) := by decide +kernel
theorem dX5_card_15 : decode cX5_card 15 = .ok (.getfield 33, 3) := by decide +kernel
theorem dX5_card_18 : decode cX5_card 18 = .ok (.getfield 83, 3) := by decide +kernel
theorem dX5_card_21 : decode cX5_card 21 = .ok (.bipush 10, 2) := by decide +kernel
theorem dX5_card_23 : decode cX5_card 23 = .ok (.if_icmp .lt 7, 3) := by decide +kernel
theorem dX5_card_26 : decode cX5_card 26 = .ok (.sipush (-1004), 3) := by decide +kernel
theorem dX5_card_29 : decode cX5_card 29 = .ok (.ireturn, 1) := by decide +kernel
theorem dX5_card_30 : decode cX5_card 30 = .ok (.aload_n 0, 1) := by decide +kernel
theorem dX5_card_31 : decode cX5_card 31 = .ok (.getfield 33, 3) := by decide +kernel
theorem dX5_card_34 : decode cX5_card 34 = .ok (.iload_n 1, 1) := by decide +kernel
theorem dX5_card_35 : decode cX5_card 35 = .ok (.invokevirtual 141, 3) := by decide +kernel
theorem dX5_card_38 : decode cX5_card 38 = .ok (.ireturn, 1) := by decide +kernel
set_option maxRecDepth 20000 in
theorem ggX5_empty_X0_clear : GoodIn wsX5_empty wsX0_clear := goodIn_r _ [6, 7, 8, 9, 10, 5, 11, 12, 19, 20, 21, 22, 23, 24] (by decide +kernel) (by decide +kernel)
set_option maxRecDepth 20000 in
theorem gX5_empty_X0_clear : GoodIn wsX5_empty (wsV RX5 144 RX0 yX0_clear wsX0_clear) := goodIn_app (goodIn_of _ (by decide +kernel)) ggX5_empty_X0_clear
theorem dX5_empty_0 : decode cX5_empty 0 = .ok (.aload_n 0, 1) := by decide +kernel
theorem dX5_empty_1 : decode cX5_empty 1 = .ok (.getfield 33, 3) := by decide +kernel
theorem dX5_empty_4 : decode cX5_empty 4 = .ok (.invokevirtual 144, 3) := by decide +kernel
theorem dX5_empty_7 : decode cX5_empty 7 = .ok (.ireturn, 1) := by decide +kernel
set_option maxRecDepth 20000 in
theorem ggX5_draws_X5_isOutside : GoodIn wsX5_draws wsX5_isOutside := goodIn_r _ [5] (by decide +kernel) (by decide +kernel)
set_option maxRecDepth 20000 in
theorem gX5_draws_X5_isOutside : GoodIn wsX5_draws (va_wsS RX5 51 yX5_isOutside wsX5_isOutside) := goodIn_app (goodIn_of _ (by decide +kernel)) ggX5_draws_X5_isOutside
set_option maxRecDepth 20000 in
theorem ggX5_draws_X0_countDraws : GoodIn wsX5_draws wsX0_countDraws := goodIn_r _ [10, 11, 12, 13, 14, 15, 16, 17, 18, 19, 20, 21, 22, 23, 24, 9, 25, 26, 27, 28, 29, 30, 31, 32, 33, 34, 35, 36, 37, 38, 39, 40, 41, 42, 43, 44, 45, 46, 47, 48, 49, 50, 51, 52, 53, 54, 55, 56, 57, 58, 59, 60, 61, 62, 63, 64, 65, 66, 67, 68, 69, 70, 71, 72, 73, 74, 75, 76, 77, 78, 79, 80, 81, 82, 83, 84, 85, 86, 87, 88, 107, 108, 109, 110, 111, 112, 113, 114, 115, 116, 117, 118, 119, 120, 121, 122] (by decide +kernel) (by decide +kernel)
set_option maxRecDepth 20000 in
theorem gX5_draws_X0_countDraws : GoodIn wsX5_draws (wsV RX5 147 RX0 yX0_countDraws wsX0_countDraws) := goodIn_app (goodIn_of _ (by decide +kernel)) ggX5_draws_X0_countDraws
set_option maxRecDepth 20000 in
theorem ggX5_draws_X0_drawsOf : GoodIn wsX5_draws wsX0_drawsOf := goodIn_r _ [92, 12, 107, 108, 109, 110, 111, 112] (by decide +kernel) (by decide +kernel)
set_option maxRecDepth 20000 in
theorem gX5_draws_X0_drawsOf : GoodIn wsX5_draws (wsV RX5 150 RX0 yX0_drawsOf wsX0_drawsOf) := goodIn_app (goodIn_of _ (by decide +kernel)) ggX5_draws_X0_drawsOf
set_option maxRecDepth 20000 in
theorem ggX5_draws_X0_drawsReaching : GoodIn wsX5_draws wsX0_drawsReaching := goodIn_r _ [96, 13, 107, 108, 109, 110, 111, 112] (by decide +kernel) (by decide +kernel)
set_option maxRecDepth 20000 in
theorem gX5_draws_X0_drawsReaching : GoodIn wsX5_draws (wsV RX5 153 RX0 yX0_drawsReaching wsX0_drawsReaching) := goodIn_app (goodIn_of _ (by decide +kernel)) ggX5_draws_X0_drawsReaching
set_option maxRecDepth 20000 in
theorem ggX5_draws_X5_greatestCommonDivisor : GoodIn wsX5_draws wsX5_greatestCommonDivisor := goodIn_r _ [99, 100, 45, 37, 46] (by decide +kernel) (by decide +kernel)
set_option maxRecDepth 20000 in
theorem gX5_draws_X5_greatestCommonDivisor : GoodIn wsX5_draws (va_wsS RX5 156 yX5_greatestCommonDivisor wsX5_greatestCommonDivisor) := goodIn_app (goodIn_of _ (by decide +kernel)) ggX5_draws_X5_greatestCommonDivisor
theorem dX5_draws_0 : decode cX5_draws 0 = .ok (.iload_n 1, 1) := by decide +kernel
theorem dX5_draws_1 : decode cX5_draws 1 = .ok (.iconst 1, 1) := by decide +kernel
theorem dX5_draws_2 : decode cX5_draws 2 = .ok (.iconst 4, 1) := by decide +kernel
theorem dX5_draws_3 : decode cX5_draws 3 = .ok (.invokestatic 51, 3) := by decide +kernel
theorem dX5_draws_6 : decode cX5_draws 6 = .ok (.ifCond .ne 23, 3) := by decide +kernel
theorem dX5_draws_9 : decode cX5_draws 9 = .ok (.iload_n 2, 1) := by decide +kernel
theorem dX5_draws_10 : decode cX5_draws 10 = .ok (.iconst 1, 1) := by decide +kernel
theorem dX5_draws_11 : decode cX5_draws 11 = .ok (.sipush 3000, 3) := by decide +kernel
theorem dX5_draws_14 : decode cX5_draws 14 = .ok (.invokestatic 51, 3) := by decide +kernel
theorem dX5_draws_17 : decode cX5_draws 17 = .ok (.ifCond .ne 12, 3) := by decide +kernel
theorem dX5_draws_20 : decode cX5_draws 20 = .ok (.iload_n 3, 1) := by decide +kernel
theorem dX5_draws_21 : decode cX5_draws 21 = .ok (.iconst 0, 1) := by decide +kernel
theorem dX5_draws_22 : decode cX5_draws 22 = .ok (.iconst 3, 1) := by decide +kernel
theorem dX5_draws_23 : decode cX5_draws 23 = .ok (.invokestatic 51, 3) := by decide +kernel
theorem dX5_draws_26 : decode cX5_draws 26 = .ok (.ifCond .eq 7, 3) := by decide +kernel
theorem dX5_draws_29 : decode cX5_draws 29 = .ok (.sipush (-1002), 3) := by decide +kernel
theorem dX5_draws_32 : decode cX5_draws 32 = .ok (.ireturn, 1) := by decide +kernel
theorem dX5_draws_33 : decode cX5_draws 33 = .ok (.aload_n 0, 1) := by decide +kernel
theorem dX5_draws_34 : decode cX5_draws 34 = .ok (.getfield 33, 3) := by decide +kernel
theorem dX5_draws_37 : decode cX5_draws 37 = .ok (.iload_n 1, 1) := by decide +kernel
theorem dX5_draws_38 : decode cX5_draws 38 = .ok (.invokevirtual 147, 3) := by decide +kernel
theorem dX5_draws_41 : decode cX5_draws 41 = .ok (.aload_n 0, 1) := by decide +kernel
theorem dX5_draws_42 : decode cX5_draws 42 = .ok (.getfield 33, 3) := by decide +kernel
theorem dX5_draws_45 : decode cX5_draws 45 = .ok (.iload_n 1, 1) := by decide +kernel
theorem dX5_draws_46 : decode cX5_draws 46 = .ok (.invokevirtual 150, 3) := by decide +kernel
theorem dX5_draws_49 : decode cX5_draws 49 = .ok (.istore 4, 2) := by decide +kernel
theorem dX5_draws_51 : decode cX5_draws 51 = .ok (.aload_n 0, 1) := by decide +kernel
theorem dX5_draws_52 : decode cX5_draws 52 = .ok (.getfield 33, 3) := by decide +kernel
theorem dX5_draws_55 : decode cX5_draws 55 = .ok (.iload_n 1, 1) := by decide +kernel
theorem dX5_draws_56 : decode cX5_draws 56 = .ok (.iload_n 2, 1) := by decide +kernel
theorem dX5_draws_57 : decode cX5_draws 57 = .ok (.invokevirtual 153, 3) := by decide +kernel
theorem dX5_draws_60 : decode cX5_draws 60 = .ok (.istore 5, 2) := by decide +kernel
theorem dX5_draws_62 : decode cX5_draws 62 = .ok (.iload 4, 2) := by decide +kernel
theorem dX5_draws_64 : decode cX5_draws 64 = .ok (.iload 5, 2) := by decide +kernel
theorem dX5_draws_66 : decode cX5_draws 66 = .ok (.invokestatic 156, 3) := by decide +kernel
theorem dX5_draws_69 : decode cX5_draws 69 = .ok (.istore 6, 2) := by decide +kernel
theorem dX5_draws_71 : decode cX5_draws 71 = .ok (.iload_n 3, 1) := by decide +kernel
theorem dX5_draws_72 : decode cX5_draws 72 = .ok (.tableswitch 49 0 2 #[28, 31, 34], 28) := by decide +kernel
theorem dX5_draws_100 : decode cX5_draws 100 = .ok (.iload 4, 2) := by decide +kernel
theorem dX5_draws_102 : decode cX5_draws 102 = .ok (.ireturn, 1) := by decide +kernel
theorem dX5_draws_103 : decode cX5_draws 103 = .ok (.iload 5, 2) := by decide +kernel
theorem dX5_draws_105 : decode cX5_draws 105 = .ok (.ireturn, 1) := by decide +kernel
theorem dX5_draws_106 : decode cX5_draws 106 = .ok (.iload 6, 2) := by decide +kernel
theorem dX5_draws_108 : decode cX5_draws 108 = .ok (.ifCond .ne 7, 3) := by decide +kernel
theorem dX5_draws_111 : decode cX5_draws 111 = .ok (.iconst 0, 1) := by decide +kernel
theorem dX5_draws_112 : decode cX5_draws 112 = .ok (.goto 8, 3) := by decide +kernel
theorem dX5_draws_115 : decode cX5_draws 115 = .ok (.iload 5, 2) := by decide +kernel
theorem dX5_draws_117 : decode cX5_draws 117 = .ok (.iload 6, 2) := by decide +kernel
theorem dX5_draws_119 : decode cX5_draws 119 = .ok (.idiv, 1) := by decide +kernel
theorem dX5_draws_120 : decode cX5_draws 120 = .ok (.ireturn, 1) := by decide +kernel
theorem dX5_draws_121 : decode cX5_draws 121 = .ok (.iload 6, 2) := by decide +kernel
theorem dX5_draws_123 : decode cX5_draws 123 = .ok (.ifCond .ne 7, 3) := by decide +kernel
theorem dX5_draws_126 : decode cX5_draws 126 = .ok (.iconst 1, 1) := by decide +kernel
theorem dX5_draws_127 : decode cX5_draws 127 = .ok (.goto 8, 3) := by decide +kernel
theorem dX5_draws_130 : decode cX5_draws 130 = .ok (.iload 4, 2) := by decide +kernel
theorem dX5_draws_132 : decode cX5_draws 132 = .ok (.iload 6, 2) := by decide +kernel
theorem dX5_draws_134 : decode cX5_draws 134 = .ok (.idiv, 1) := by decide +kernel
theorem dX5_draws_135 : decode cX5_draws 135 = .ok (.ireturn, 1) := by decide +kernel
set_option maxRecDepth 20000 in
theorem ggX5_most_X5_isOutside : GoodIn wsX5_most wsX5_isOutside := goodIn_r _ [5] (by decide +kernel) (by decide +kernel)
set_option maxRecDepth 20000 in
theorem gX5_most_X5_isOutside : GoodIn wsX5_most (va_wsS RX5 51 yX5_isOutside wsX5_isOutside) := goodIn_app (goodIn_of _ (by decide +kernel)) ggX5_most_X5_isOutside
set_option maxRecDepth 20000 in
theorem ggX5_most_X0_countDraws : GoodIn wsX5_most wsX0_countDraws := goodIn_r _ [10, 11, 12, 13, 14, 15, 16, 17, 18, 19, 20, 21, 22, 23, 24, 9, 25, 26, 27, 28, 29, 30, 31, 32, 33, 34, 35, 36, 37, 38, 39, 40, 41, 42, 43, 44, 45, 46, 47, 48, 49, 50, 51, 52, 53, 54, 55, 56, 57, 58, 59, 60, 61, 62, 63, 64, 65, 66, 67, 68, 69, 70, 71, 72, 73, 74, 75, 76, 77, 78, 79, 80, 81, 82, 83, 84, 85, 86, 87, 88, 99, 100, 101, 102, 103, 104, 105, 106, 107, 108, 109, 110, 111, 112, 113, 114] (by decide +kernel) (by decide +kernel)
set_option maxRecDepth 20000 in
theorem gX5_most_X0_countDraws : GoodIn wsX5_most (wsV RX5 147 RX0 yX0_countDraws wsX0_countDraws) := goodIn_app (goodIn_of _ (by decide +kernel)) ggX5_most_X0_countDraws
set_option maxRecDepth 20000 in
theorem ggX5_most_X0_drawsReaching : GoodIn wsX5_most wsX0_drawsReaching := goodIn_r _ [92, 13, 99, 100, 101, 102, 103, 104] (by decide +kernel) (by decide +kernel)
set_option maxRecDepth 20000 in
theorem gX5_most_X0_drawsReaching : GoodIn wsX5_most (wsV RX5 153 RX0 yX0_drawsReaching wsX0_drawsReaching) := goodIn_app (goodIn_of _ (by decide +kernel)) ggX5_most_X0_drawsReaching
theorem dX5_most_0 : decode cX5_most 0 = .ok (.iload_n 1, 1) := by decide +kernel
theorem dX5_most_1 : decode cX5_most 1 = .ok (.iconst 1, 1) := by decide +kernel
theorem dX5_most_2 : decode cX5_most 2 = .ok (.iconst 4, 1) := by decide +kernel
theorem dX5_most_3 : decode cX5_most 3 = .ok (.invokestatic 51, 3) := by decide +kernel
theorem dX5_most_6 : decode cX5_most 6 = .ok (.ifCond .ne 12, 3) := by decide +kernel
theorem dX5_most_9 : decode cX5_most 9 = .ok (.iload_n 2, 1) := by decide +kernel
theorem dX5_most_10 : decode cX5_most 10 = .ok (.iconst 0, 1) := by decide +kernel
theorem dX5_most_11 : decode cX5_most 11 = .ok (.iconst 1, 1) := by decide +kernel
theorem dX5_most_12 : decode cX5_most 12 = .ok (.invokestatic 51, 3) := by decide +kernel
theorem dX5_most_15 : decode cX5_most 15 = .ok (.ifCond .eq 7, 3) := by decide +kernel
theorem dX5_most_18 : decode cX5_most 18 = .ok (.sipush (-1002), 3) := by decide +kernel
theorem dX5_most_21 : decode cX5_most 21 = .ok (.ireturn, 1) := by decide +kernel
theorem dX5_most_22 : decode cX5_most 22 = .ok (.aload_n 0, 1) := by decide +kernel
theorem dX5_most_23 : decode cX5_most 23 = .ok (.getfield 33, 3) := by decide +kernel
theorem dX5_most_26 : decode cX5_most 26 = .ok (.iload_n 1, 1) := by decide +kernel
theorem dX5_most_27 : decode cX5_most 27 = .ok (.invokevirtual 147, 3) := by decide +kernel
theorem dX5_most_30 : decode cX5_most 30 = .ok (.iconst 1, 1) := by decide +kernel
theorem dX5_most_31 : decode cX5_most 31 = .ok (.istore_n 3, 1) := by decide +kernel
theorem dX5_most_32 : decode cX5_most 32 = .ok (.iconst 2, 1) := by decide +kernel
theorem dX5_most_33 : decode cX5_most 33 = .ok (.istore 4, 2) := by decide +kernel
theorem dX5_most_35 : decode cX5_most 35 = .ok (.iload 4, 2) := by decide +kernel
theorem dX5_most_37 : decode cX5_most 37 = .ok (.bipush 100, 2) := by decide +kernel
theorem dX5_most_39 : decode cX5_most 39 = .ok (.if_icmp .gt 34, 3) := by decide +kernel
theorem dX5_most_42 : decode cX5_most 42 = .ok (.aload_n 0, 1) := by decide +kernel
theorem dX5_most_43 : decode cX5_most 43 = .ok (.getfield 33, 3) := by decide +kernel
theorem dX5_most_46 : decode cX5_most 46 = .ok (.iload_n 1, 1) := by decide +kernel
theorem dX5_most_47 : decode cX5_most 47 = .ok (.iload 4, 2) := by decide +kernel
theorem dX5_most_49 : decode cX5_most 49 = .ok (.invokevirtual 153, 3) := by decide +kernel
theorem dX5_most_52 : decode cX5_most 52 = .ok (.aload_n 0, 1) := by decide +kernel
theorem dX5_most_53 : decode cX5_most 53 = .ok (.getfield 33, 3) := by decide +kernel
theorem dX5_most_56 : decode cX5_most 56 = .ok (.iload_n 1, 1) := by decide +kernel
theorem dX5_most_57 : decode cX5_most 57 = .ok (.iload_n 3, 1) := by decide +kernel
theorem dX5_most_58 : decode cX5_most 58 = .ok (.invokevirtual 153, 3) := by decide +kernel
theorem dX5_most_61 : decode cX5_most 61 = .ok (.if_icmp .le 6, 3) := by decide +kernel
theorem dX5_most_64 : decode cX5_most 64 = .ok (.iload 4, 2) := by decide +kernel
theorem dX5_most_66 : decode cX5_most 66 = .ok (.istore_n 3, 1) := by decide +kernel
theorem dX5_most_67 : decode cX5_most 67 = .ok (.iinc 4 1, 3) := by decide +kernel
theorem dX5_most_70 : decode cX5_most 70 = .ok (.goto (-35), 3) := by decide +kernel
theorem dX5_most_73 : decode cX5_most 73 = .ok (.iload_n 2, 1) := by decide +kernel
theorem dX5_most_74 : decode cX5_most 74 = .ok (.ifCond .ne 7, 3) := by decide +kernel
theorem dX5_most_77 : decode cX5_most 77 = .ok (.iload_n 3, 1) := by decide +kernel
theorem dX5_most_78 : decode cX5_most 78 = .ok (.goto 12, 3) := by decide +kernel
theorem dX5_most_81 : decode cX5_most 81 = .ok (.aload_n 0, 1) := by decide +kernel
theorem dX5_most_82 : decode cX5_most 82 = .ok (.getfield 33, 3) := by decide +kernel
theorem dX5_most_85 : decode cX5_most 85 = .ok (.iload_n 1, 1) := by decide +kernel
theorem dX5_most_86 : decode cX5_most 86 = .ok (.iload_n 3, 1) := by decide +kernel
theorem dX5_most_87 : decode cX5_most 87 = .ok (.invokevirtual 153, 3) := by decide +kernel
theorem dX5_most_90 : decode cX5_most 90 = .ok (.ireturn, 1) := by decide +kernel
set_option maxRecDepth 20000 in
theorem ggX5_span_X5_isOutside : GoodIn wsX5_span wsX5_isOutside := goodIn_r _ [4] (by decide +kernel) (by decide +kernel)
set_option maxRecDepth 20000 in
theorem gX5_span_X5_isOutside : GoodIn wsX5_span (va_wsS RX5 51 yX5_isOutside wsX5_isOutside) := goodIn_app (goodIn_of _ (by decide +kernel)) ggX5_span_X5_isOutside
set_option maxRecDepth 20000 in
theorem ggX5_span_X5_firstSpan : GoodIn wsX5_span wsX5_firstSpan := goodIn_r _ [8, 9, 10, 11, 12, 13, 14, 15, 16, 17, 18, 3, 19, 20, 21, 22, 23, 24, 25, 26, 27, 28, 29, 30, 31, 32, 33, 34, 35, 36, 37, 38, 39, 40, 41, 42, 43, 44, 45, 46, 47, 48, 49, 50, 51, 52, 53, 54, 55, 56, 57, 58, 59, 60, 61, 62, 63, 64, 65, 66, 67, 68, 69, 70, 71, 72, 73, 74, 75, 76, 77, 78, 79, 80, 81, 82, 83, 84, 85, 86, 87, 88, 92, 93, 94, 95, 96, 97, 98, 99, 100, 101, 102, 103, 104, 105, 106, 107] (by decide +kernel) (by decide +kernel)
set_option maxRecDepth 20000 in
theorem gX5_span_X5_firstSpan : GoodIn wsX5_span (wsV RX5 159 RX5 yX5_firstSpan wsX5_firstSpan) := goodIn_app (goodIn_of _ (by decide +kernel)) ggX5_span_X5_firstSpan
set_option maxRecDepth 20000 in
theorem ggX5_span_X5_spanNumber : GoodIn wsX5_span wsX5_spanNumber := goodIn_r _ [91, 21, 22, 3, 23] (by decide +kernel) (by decide +kernel)
set_option maxRecDepth 20000 in
theorem gX5_span_X5_spanNumber : GoodIn wsX5_span (va_wsS RX5 162 yX5_spanNumber wsX5_spanNumber) := goodIn_app (goodIn_of _ (by decide +kernel)) ggX5_span_X5_spanNumber
theorem dX5_span_0 : decode cX5_span 0 = .ok (.iload_n 1, 1) := by decide +kernel
theorem dX5_span_1 : decode cX5_span 1 = .ok (.iconst 1, 1) := by decide +kernel
theorem dX5_span_2 : decode cX5_span 2 = .ok (.iconst 3, 1) := by decide +kernel
theorem dX5_span_3 : decode cX5_span 3 = .ok (.invokestatic 51, 3) := by decide +kernel
theorem dX5_span_6 : decode cX5_span 6 = .ok (.ifCond .ne 24, 3) := by decide +kernel
theorem dX5_span_9 : decode cX5_span 9 = .ok (.iload_n 2, 1) := by decide +kernel
theorem dX5_span_10 : decode cX5_span 10 = .ok (.iconst 1, 1) := by decide +kernel
theorem dX5_span_11 : decode cX5_span 11 = .ok (.bipush 100, 2) := by decide +kernel
theorem dX5_span_13 : decode cX5_span 13 = .ok (.invokestatic 51, 3) := by decide +kernel
theorem dX5_span_16 : decode cX5_span 16 = .ok (.ifCond .ne 14, 3) := by decide +kernel
theorem dX5_span_19 : decode cX5_span 19 = .ok (.iload_n 3, 1) := by decide +kernel
theorem dX5_span_20 : decode cX5_span 20 = .ok (.iconst 0, 1) := by decide +kernel
theorem dX5_span_21 : decode cX5_span 21 = .ok (.iload_n 1, 1) := by decide +kernel
theorem dX5_span_22 : decode cX5_span 22 = .ok (.iconst 1, 1) := by decide +kernel
theorem dX5_span_23 : decode cX5_span 23 = .ok (.isub, 1) := by decide +kernel
theorem dX5_span_24 : decode cX5_span 24 = .ok (.invokestatic 51, 3) := by decide +kernel
theorem dX5_span_27 : decode cX5_span 27 = .ok (.ifCond .eq 7, 3) := by decide +kernel
theorem dX5_span_30 : decode cX5_span 30 = .ok (.sipush (-1002), 3) := by decide +kernel
theorem dX5_span_33 : decode cX5_span 33 = .ok (.ireturn, 1) := by decide +kernel
theorem dX5_span_34 : decode cX5_span 34 = .ok (.aload_n 0, 1) := by decide +kernel
theorem dX5_span_35 : decode cX5_span 35 = .ok (.iload_n 1, 1) := by decide +kernel
theorem dX5_span_36 : decode cX5_span 36 = .ok (.iload_n 2, 1) := by decide +kernel
theorem dX5_span_37 : decode cX5_span 37 = .ok (.invokevirtual 159, 3) := by decide +kernel
theorem dX5_span_40 : decode cX5_span 40 = .ok (.iload_n 3, 1) := by decide +kernel
theorem dX5_span_41 : decode cX5_span 41 = .ok (.invokestatic 162, 3) := by decide +kernel
theorem dX5_span_44 : decode cX5_span 44 = .ok (.ireturn, 1) := by decide +kernel
set_option maxRecDepth 20000 in
theorem ggX5_signs_X5_isOutside : GoodIn wsX5_signs wsX5_isOutside := goodIn_r _ [5] (by decide +kernel) (by decide +kernel)
set_option maxRecDepth 20000 in
theorem gX5_signs_X5_isOutside : GoodIn wsX5_signs (va_wsS RX5 51 yX5_isOutside wsX5_isOutside) := goodIn_app (goodIn_of _ (by decide +kernel)) ggX5_signs_X5_isOutside
set_option maxRecDepth 20000 in
theorem ggX5_signs_X4_stepsBetween : GoodIn wsX5_signs wsX4_stepsBetween := goodIn_r _ [10, 11, 12, 3, 4, 5, 13, 14, 15, 9, 16, 17, 18, 19, 20, 21, 22, 23, 24, 25, 26, 27, 28, 29, 30, 31, 38, 39, 40, 41] (by decide +kernel) (by decide +kernel)
set_option maxRecDepth 20000 in
theorem gX5_signs_X4_stepsBetween : GoodIn wsX5_signs (wsV RX5 165 RX4 yX4_stepsBetween wsX4_stepsBetween) := goodIn_app (goodIn_of _ (by decide +kernel)) ggX5_signs_X4_stepsBetween
theorem dX5_signs_0 : decode cX5_signs 0 = .ok (.iload_n 1, 1) := by decide +kernel
theorem dX5_signs_1 : decode cX5_signs 1 = .ok (.iconst 1, 1) := by decide +kernel
theorem dX5_signs_2 : decode cX5_signs 2 = .ok (.bipush 100, 2) := by decide +kernel
theorem dX5_signs_4 : decode cX5_signs 4 = .ok (.invokestatic 51, 3) := by decide +kernel
theorem dX5_signs_7 : decode cX5_signs 7 = .ok (.ifCond .ne 14, 3) := by decide +kernel
theorem dX5_signs_10 : decode cX5_signs 10 = .ok (.iload_n 2, 1) := by decide +kernel
theorem dX5_signs_11 : decode cX5_signs 11 = .ok (.iconst 0, 1) := by decide +kernel
theorem dX5_signs_12 : decode cX5_signs 12 = .ok (.sipush 5040, 3) := by decide +kernel
theorem dX5_signs_15 : decode cX5_signs 15 = .ok (.invokestatic 51, 3) := by decide +kernel
theorem dX5_signs_18 : decode cX5_signs 18 = .ok (.ifCond .eq 7, 3) := by decide +kernel
theorem dX5_signs_21 : decode cX5_signs 21 = .ok (.sipush (-1002), 3) := by decide +kernel
theorem dX5_signs_24 : decode cX5_signs 24 = .ok (.ireturn, 1) := by decide +kernel
theorem dX5_signs_25 : decode cX5_signs 25 = .ok (.aload_n 0, 1) := by decide +kernel
theorem dX5_signs_26 : decode cX5_signs 26 = .ok (.getfield 47, 3) := by decide +kernel
theorem dX5_signs_29 : decode cX5_signs 29 = .ok (.iload_n 1, 1) := by decide +kernel
theorem dX5_signs_30 : decode cX5_signs 30 = .ok (.iload_n 2, 1) := by decide +kernel
theorem dX5_signs_31 : decode cX5_signs 31 = .ok (.invokevirtual 165, 3) := by decide +kernel
theorem dX5_signs_34 : decode cX5_signs 34 = .ok (.ireturn, 1) := by decide +kernel
theorem dX5_isOutside_0 : decode cX5_isOutside 0 = .ok (.iload_n 0, 1) := by decide +kernel
theorem dX5_isOutside_1 : decode cX5_isOutside 1 = .ok (.iload_n 1, 1) := by decide +kernel
theorem dX5_isOutside_2 : decode cX5_isOutside 2 = .ok (.if_icmp .lt 8, 3) := by decide +kernel
theorem dX5_isOutside_5 : decode cX5_isOutside 5 = .ok (.iload_n 0, 1) := by decide +kernel
theorem dX5_isOutside_6 : decode cX5_isOutside 6 = .ok (.iload_n 2, 1) := by decide +kernel
theorem dX5_isOutside_7 : decode cX5_isOutside 7 = .ok (.if_icmp .le 7, 3) := by decide +kernel
theorem dX5_isOutside_10 : decode cX5_isOutside 10 = .ok (.iconst 1, 1) := by decide +kernel
theorem dX5_isOutside_11 : decode cX5_isOutside 11 = .ok (.goto 4, 3) := by decide +kernel
theorem dX5_isOutside_14 : decode cX5_isOutside 14 = .ok (.iconst 0, 1) := by decide +kernel
theorem dX5_isOutside_15 : decode cX5_isOutside 15 = .ok (.ireturn, 1) := by decide +kernel
set_option maxRecDepth 20000 in
theorem ggX5_isNoWholeSet_X1_knows : GoodIn wsX5_isNoWholeSet wsX1_knows := goodIn_r _ [6, 7, 14, 15, 16, 17, 18, 19, 20, 21] (by decide +kernel) (by decide +kernel)
set_option maxRecDepth 20000 in
theorem gX5_isNoWholeSet_X1_knows : GoodIn wsX5_isNoWholeSet (wsV RX5 107 RX1 yX1_knows wsX1_knows) := goodIn_app (goodIn_of _ (by decide +kernel)) ggX5_isNoWholeSet_X1_knows
theorem dX5_isNoWholeSet_0 : decode cX5_isNoWholeSet 0 = .ok (.iload_n 1, 1) := by decide +kernel
theorem dX5_isNoWholeSet_1 : decode cX5_isNoWholeSet 1 = .ok (.ifCond .eq 14, 3) := by decide +kernel
theorem dX5_isNoWholeSet_4 : decode cX5_isNoWholeSet 4 = .ok (.aload_n 0, 1) := by decide +kernel
theorem dX5_isNoWholeSet_5 : decode cX5_isNoWholeSet 5 = .ok (.getfield 21, 3) := by decide +kernel
theorem dX5_isNoWholeSet_8 : decode cX5_isNoWholeSet 8 = .ok (.iload_n 1, 1) := by decide +kernel
theorem dX5_isNoWholeSet_9 : decode cX5_isNoWholeSet 9 = .ok (.invokevirtual 107, 3) := by decide +kernel
theorem dX5_isNoWholeSet_12 : decode cX5_isNoWholeSet 12 = .ok (.ifCond .ne 7, 3) := by decide +kernel
theorem dX5_isNoWholeSet_15 : decode cX5_isNoWholeSet 15 = .ok (.iconst 1, 1) := by decide +kernel
theorem dX5_isNoWholeSet_16 : decode cX5_isNoWholeSet 16 = .ok (.goto 4, 3) := by decide +kernel
theorem dX5_isNoWholeSet_19 : decode cX5_isNoWholeSet 19 = .ok (.iconst 0, 1) := by decide +kernel
theorem dX5_isNoWholeSet_20 : decode cX5_isNoWholeSet 20 = .ok (.ireturn, 1) := by decide +kernel
set_option maxRecDepth 20000 in
theorem ggX5_printWay_X5_writeFirstWay : GoodIn wsX5_printWay wsX5_writeFirstWay := goodIn_r _ [6, 7, 8, 9, 10, 11, 12, 13, 14, 15, 16, 17, 18, 19, 20, 21, 22, 23, 24, 25, 26, 27, 28, 29, 30, 31, 32, 33, 34, 35, 36, 37, 38, 39, 5, 40, 41, 42, 43, 44, 45, 46, 3, 4, 47, 48, 49, 50, 51, 52, 53, 54, 55, 56, 57, 58, 59, 60, 61, 62, 63, 64, 65, 66, 67, 68, 69, 70, 71, 72, 73, 74, 75, 76, 77, 78, 79, 80, 81, 82, 83, 84, 85, 86, 87, 88, 95, 96, 97, 98, 99, 100, 101, 102, 103, 104, 105, 106] (by decide +kernel) (by decide +kernel)
set_option maxRecDepth 20000 in
theorem gX5_printWay_X5_writeFirstWay : GoodIn wsX5_printWay (va_wsS RX5 168 yX5_writeFirstWay wsX5_writeFirstWay) := goodIn_app (goodIn_of _ (by decide +kernel)) ggX5_printWay_X5_writeFirstWay
theorem dX5_printWay_0 : decode cX5_printWay 0 = .ok (.aload_n 0, 1) := by decide +kernel
theorem dX5_printWay_1 : decode cX5_printWay 1 = .ok (.getfield 40, 3) := by decide +kernel
theorem dX5_printWay_4 : decode cX5_printWay 4 = .ok (.iconst 0, 1) := by decide +kernel
theorem dX5_printWay_5 : decode cX5_printWay 5 = .ok (.putfield 84, 3) := by decide +kernel
theorem dX5_printWay_8 : decode cX5_printWay 8 = .ok (.aload_n 0, 1) := by decide +kernel
theorem dX5_printWay_9 : decode cX5_printWay 9 = .ok (.getfield 21, 3) := by decide +kernel
theorem dX5_printWay_12 : decode cX5_printWay 12 = .ok (.aload_n 0, 1) := by decide +kernel
theorem dX5_printWay_13 : decode cX5_printWay 13 = .ok (.getfield 40, 3) := by decide +kernel
theorem dX5_printWay_16 : decode cX5_printWay 16 = .ok (.iload_n 1, 1) := by decide +kernel
theorem dX5_printWay_17 : decode cX5_printWay 17 = .ok (.iload_n 2, 1) := by decide +kernel
theorem dX5_printWay_18 : decode cX5_printWay 18 = .ok (.iconst 1, 1) := by decide +kernel
theorem dX5_printWay_19 : decode cX5_printWay 19 = .ok (.invokestatic 168, 3) := by decide +kernel
theorem dX5_printWay_22 : decode cX5_printWay 22 = .ok (.aload_n 0, 1) := by decide +kernel
theorem dX5_printWay_23 : decode cX5_printWay 23 = .ok (.getfield 40, 3) := by decide +kernel
theorem dX5_printWay_26 : decode cX5_printWay 26 = .ok (.getfield 84, 3) := by decide +kernel
theorem dX5_printWay_29 : decode cX5_printWay 29 = .ok (.ireturn, 1) := by decide +kernel
set_option maxRecDepth 20000 in
theorem ggX5_writeFirstWay_J6_bitCount_0f7a4 : GoodIn wsX5_writeFirstWay wsJ6_bitCount_0f7a4 := goodIn_r _ [4, 5, 6, 7] (by decide +kernel) (by decide +kernel)
set_option maxRecDepth 20000 in
theorem gX5_writeFirstWay_J6_bitCount_0f7a4 : GoodIn wsX5_writeFirstWay (va_wsS RX5 127 yJ6_bitCount_0f7a4 wsJ6_bitCount_0f7a4) := goodIn_app (goodIn_of _ (by decide +kernel)) ggX5_writeFirstWay_J6_bitCount_0f7a4
set_option maxRecDepth 20000 in
theorem ggX5_writeFirstWay_X2_addNumber : GoodIn wsX5_writeFirstWay wsX2_addNumber := goodIn_r _ [12, 13, 14, 15, 11, 16, 17, 18, 86, 87] (by decide +kernel) (by decide +kernel)
set_option maxRecDepth 20000 in
theorem gX5_writeFirstWay_X2_addNumber : GoodIn wsX5_writeFirstWay (wsV RX5 172 RX2 yX2_addNumber wsX2_addNumber) := goodIn_app (goodIn_of _ (by decide +kernel)) ggX5_writeFirstWay_X2_addNumber
set_option maxRecDepth 20000 in
theorem ggX5_writeFirstWay_X1_leastLeftNumber : GoodIn wsX5_writeFirstWay wsX1_leastLeftNumber := goodIn_r _ [23, 24, 25, 26, 27, 28, 29, 30, 31, 32, 33, 34, 35, 36, 37, 38, 22, 39, 40, 88, 89, 90, 91, 92, 93, 94, 95, 96, 97] (by decide +kernel) (by decide +kernel)
set_option maxRecDepth 20000 in
theorem gX5_writeFirstWay_X1_leastLeftNumber : GoodIn wsX5_writeFirstWay (wsV RX5 175 RX1 yX1_leastLeftNumber wsX1_leastLeftNumber) := goodIn_app (goodIn_of _ (by decide +kernel)) ggX5_writeFirstWay_X1_leastLeftNumber
set_option maxRecDepth 20000 in
theorem ggX5_writeFirstWay_X2_add : GoodIn wsX5_writeFirstWay wsX2_add := goodIn_r _ [16, 17, 18, 86, 87] (by decide +kernel) (by decide +kernel)
set_option maxRecDepth 20000 in
theorem gX5_writeFirstWay_X2_add : GoodIn wsX5_writeFirstWay (wsV RX5 179 RX2 yX2_add wsX2_add) := goodIn_app (goodIn_of _ (by decide +kernel)) ggX5_writeFirstWay_X2_add
set_option maxRecDepth 20000 in
theorem ggX5_writeFirstWay_X5_writeFirstWay : GoodIn wsX5_writeFirstWay wsX5_writeFirstWay := goodIn_r _ [0, 1, 2, 3, 4, 5, 6, 7, 8, 9, 10, 11, 12, 13, 14, 15, 16, 17, 18, 19, 20, 21, 22, 23, 24, 25, 26, 27, 28, 29, 30, 31, 32, 33, 34, 35, 36, 37, 38, 39, 40, 41, 42, 43, 44, 45, 46, 47, 48, 49, 50, 51, 52, 53, 54, 55, 56, 57, 58, 59, 60, 61, 62, 63, 64, 65, 66, 67, 68, 69, 70, 71, 72, 73, 74, 75, 76, 77, 78, 79, 80, 81, 82, 83, 84, 85, 86, 87, 88, 89, 90, 91, 92, 93, 94, 95, 96, 97] (by decide +kernel) (by decide +kernel)
set_option maxRecDepth 20000 in
theorem gX5_writeFirstWay_X5_writeFirstWay : GoodIn wsX5_writeFirstWay (va_wsS RX5 168 yX5_writeFirstWay wsX5_writeFirstWay) := goodIn_app (goodIn_of _ (by decide +kernel)) ggX5_writeFirstWay_X5_writeFirstWay
set_option maxRecDepth 20000 in
theorem ggX5_writeFirstWay_J0_charAt_5068e : GoodIn wsX5_writeFirstWay wsJ0_charAt_5068e := goodIn_r _ [48, 49, 50, 51, 52, 47, 53, 54, 55, 56, 57, 58, 59, 60, 61, 62, 63, 64, 65, 66, 67, 68, 69, 70, 71, 72, 73, 74, 75, 76, 77, 78, 79, 80, 81, 82, 83, 84] (by decide +kernel) (by decide +kernel)
set_option maxRecDepth 20000 in
theorem gX5_writeFirstWay_J0_charAt_5068e : GoodIn wsX5_writeFirstWay (wsV RX5 185 RJ0 yJ0_charAt_5068e wsJ0_charAt_5068e) := goodIn_app (goodIn_of _ (by decide +kernel)) ggX5_writeFirstWay_J0_charAt_5068e
set_option maxRecDepth 20000 in
theorem ggX5_writeFirstWay_X5_rightNumber : GoodIn wsX5_writeFirstWay wsX5_rightNumber := goodIn_r _ [35] (by decide +kernel) (by decide +kernel)
set_option maxRecDepth 20000 in
theorem gX5_writeFirstWay_X5_rightNumber : GoodIn wsX5_writeFirstWay (va_wsS RX5 191 yX5_rightNumber wsX5_rightNumber) := goodIn_app (goodIn_of _ (by decide +kernel)) ggX5_writeFirstWay_X5_rightNumber
theorem dX5_writeFirstWay_0 : decode cX5_writeFirstWay 0 = .ok (.iload 4, 2) := by decide +kernel
theorem dX5_writeFirstWay_2 : decode cX5_writeFirstWay 2 = .ok (.bipush 6, 2) := by decide +kernel
theorem dX5_writeFirstWay_4 : decode cX5_writeFirstWay 4 = .ok (.if_icmp .le 4, 3) := by decide +kernel
theorem dX5_writeFirstWay_7 : decode cX5_writeFirstWay 7 = .ok (.return_, 1) := by decide +kernel
theorem dX5_writeFirstWay_8 : decode cX5_writeFirstWay 8 = .ok (.iload_n 2, 1) := by decide +kernel
theorem dX5_writeFirstWay_9 : decode cX5_writeFirstWay 9 = .ok (.invokestatic 127, 3) := by decide +kernel
theorem dX5_writeFirstWay_12 : decode cX5_writeFirstWay 12 = .ok (.iconst 1, 1) := by decide +kernel
theorem dX5_writeFirstWay_13 : decode cX5_writeFirstWay 13 = .ok (.if_icmp .ne 9, 3) := by decide +kernel
theorem dX5_writeFirstWay_16 : decode cX5_writeFirstWay 16 = .ok (.aload_n 1, 1) := by decide +kernel
theorem dX5_writeFirstWay_17 : decode cX5_writeFirstWay 17 = .ok (.iload_n 3, 1) := by decide +kernel
theorem dX5_writeFirstWay_18 : decode cX5_writeFirstWay 18 = .ok (.invokevirtual 172, 3) := by decide +kernel
theorem dX5_writeFirstWay_21 : decode cX5_writeFirstWay 21 = .ok (.return_, 1) := by decide +kernel
theorem dX5_writeFirstWay_22 : decode cX5_writeFirstWay 22 = .ok (.iconst 1, 1) := by decide +kernel
theorem dX5_writeFirstWay_23 : decode cX5_writeFirstWay 23 = .ok (.istore 5, 2) := by decide +kernel
theorem dX5_writeFirstWay_25 : decode cX5_writeFirstWay 25 = .ok (.iload 5, 2) := by decide +kernel
theorem dX5_writeFirstWay_27 : decode cX5_writeFirstWay 27 = .ok (.iload_n 2, 1) := by decide +kernel
theorem dX5_writeFirstWay_28 : decode cX5_writeFirstWay 28 = .ok (.if_icmp .ge 100, 3) := by decide +kernel
theorem dX5_writeFirstWay_31 : decode cX5_writeFirstWay 31 = .ok (.iconst 0, 1) := by decide +kernel
theorem dX5_writeFirstWay_32 : decode cX5_writeFirstWay 32 = .ok (.istore 6, 2) := by decide +kernel
theorem dX5_writeFirstWay_34 : decode cX5_writeFirstWay 34 = .ok (.iload 6, 2) := by decide +kernel
theorem dX5_writeFirstWay_36 : decode cX5_writeFirstWay 36 = .ok (.iconst 4, 1) := by decide +kernel
theorem dX5_writeFirstWay_37 : decode cX5_writeFirstWay 37 = .ok (.if_icmp .ge 85, 3) := by decide +kernel
theorem dX5_writeFirstWay_40 : decode cX5_writeFirstWay 40 = .ok (.aload_n 0, 1) := by decide +kernel
theorem dX5_writeFirstWay_41 : decode cX5_writeFirstWay 41 = .ok (.iload_n 2, 1) := by decide +kernel
theorem dX5_writeFirstWay_42 : decode cX5_writeFirstWay 42 = .ok (.iload 5, 2) := by decide +kernel
theorem dX5_writeFirstWay_44 : decode cX5_writeFirstWay 44 = .ok (.iload 6, 2) := by decide +kernel
theorem dX5_writeFirstWay_46 : decode cX5_writeFirstWay 46 = .ok (.iload_n 3, 1) := by decide +kernel
theorem dX5_writeFirstWay_47 : decode cX5_writeFirstWay 47 = .ok (.invokevirtual 175, 3) := by decide +kernel
theorem dX5_writeFirstWay_50 : decode cX5_writeFirstWay 50 = .ok (.istore 7, 2) := by decide +kernel
theorem dX5_writeFirstWay_52 : decode cX5_writeFirstWay 52 = .ok (.iload 7, 2) := by decide +kernel
theorem dX5_writeFirstWay_54 : decode cX5_writeFirstWay 54 = .ok (.iconst (-1), 1) := by decide +kernel
theorem dX5_writeFirstWay_55 : decode cX5_writeFirstWay 55 = .ok (.if_icmp .eq 61, 3) := by decide +kernel
theorem dX5_writeFirstWay_58 : decode cX5_writeFirstWay 58 = .ok (.aload_n 1, 1) := by decide +kernel
theorem dX5_writeFirstWay_59 : decode cX5_writeFirstWay 59 = .ok (.bipush 40, 2) := by decide +kernel
theorem dX5_writeFirstWay_61 : decode cX5_writeFirstWay 61 = .ok (.invokevirtual 179, 3) := by decide +kernel
theorem dX5_writeFirstWay_64 : decode cX5_writeFirstWay 64 = .ok (.aload_n 0, 1) := by decide +kernel
theorem dX5_writeFirstWay_65 : decode cX5_writeFirstWay 65 = .ok (.aload_n 1, 1) := by decide +kernel
theorem dX5_writeFirstWay_66 : decode cX5_writeFirstWay 66 = .ok (.iload 5, 2) := by decide +kernel
theorem dX5_writeFirstWay_68 : decode cX5_writeFirstWay 68 = .ok (.iload 7, 2) := by decide +kernel
theorem dX5_writeFirstWay_70 : decode cX5_writeFirstWay 70 = .ok (.iload 4, 2) := by decide +kernel
theorem dX5_writeFirstWay_72 : decode cX5_writeFirstWay 72 = .ok (.iconst 1, 1) := by decide +kernel
theorem dX5_writeFirstWay_73 : decode cX5_writeFirstWay 73 = .ok (.iadd, 1) := by decide +kernel
theorem dX5_writeFirstWay_74 : decode cX5_writeFirstWay 74 = .ok (.invokestatic 168, 3) := by decide +kernel
theorem dX5_writeFirstWay_77 : decode cX5_writeFirstWay 77 = .ok (.aload_n 1, 1) := by decide +kernel
theorem dX5_writeFirstWay_78 : decode cX5_writeFirstWay 78 = .ok (.ldc 183, 2) := by decide +kernel
theorem dX5_writeFirstWay_80 : decode cX5_writeFirstWay 80 = .ok (.iload 6, 2) := by decide +kernel
theorem dX5_writeFirstWay_82 : decode cX5_writeFirstWay 82 = .ok (.invokevirtual 185, 3) := by decide +kernel
theorem dX5_writeFirstWay_85 : decode cX5_writeFirstWay 85 = .ok (.invokevirtual 179, 3) := by decide +kernel
theorem dX5_writeFirstWay_88 : decode cX5_writeFirstWay 88 = .ok (.aload_n 0, 1) := by decide +kernel
theorem dX5_writeFirstWay_89 : decode cX5_writeFirstWay 89 = .ok (.aload_n 1, 1) := by decide +kernel
theorem dX5_writeFirstWay_90 : decode cX5_writeFirstWay 90 = .ok (.iload_n 2, 1) := by decide +kernel
theorem dX5_writeFirstWay_91 : decode cX5_writeFirstWay 91 = .ok (.iload 5, 2) := by decide +kernel
theorem dX5_writeFirstWay_93 : decode cX5_writeFirstWay 93 = .ok (.ixor, 1) := by decide +kernel
theorem dX5_writeFirstWay_94 : decode cX5_writeFirstWay 94 = .ok (.iload 6, 2) := by decide +kernel
theorem dX5_writeFirstWay_96 : decode cX5_writeFirstWay 96 = .ok (.iload 7, 2) := by decide +kernel
theorem dX5_writeFirstWay_98 : decode cX5_writeFirstWay 98 = .ok (.iload_n 3, 1) := by decide +kernel
theorem dX5_writeFirstWay_99 : decode cX5_writeFirstWay 99 = .ok (.invokestatic 191, 3) := by decide +kernel
theorem dX5_writeFirstWay_102 : decode cX5_writeFirstWay 102 = .ok (.iload 4, 2) := by decide +kernel
theorem dX5_writeFirstWay_104 : decode cX5_writeFirstWay 104 = .ok (.iconst 1, 1) := by decide +kernel
theorem dX5_writeFirstWay_105 : decode cX5_writeFirstWay 105 = .ok (.iadd, 1) := by decide +kernel
theorem dX5_writeFirstWay_106 : decode cX5_writeFirstWay 106 = .ok (.invokestatic 168, 3) := by decide +kernel
theorem dX5_writeFirstWay_109 : decode cX5_writeFirstWay 109 = .ok (.aload_n 1, 1) := by decide +kernel
theorem dX5_writeFirstWay_110 : decode cX5_writeFirstWay 110 = .ok (.bipush 41, 2) := by decide +kernel
theorem dX5_writeFirstWay_112 : decode cX5_writeFirstWay 112 = .ok (.invokevirtual 179, 3) := by decide +kernel
theorem dX5_writeFirstWay_115 : decode cX5_writeFirstWay 115 = .ok (.return_, 1) := by decide +kernel
theorem dX5_writeFirstWay_116 : decode cX5_writeFirstWay 116 = .ok (.iinc 6 1, 3) := by decide +kernel
theorem dX5_writeFirstWay_119 : decode cX5_writeFirstWay 119 = .ok (.goto (-85), 3) := by decide +kernel
theorem dX5_writeFirstWay_122 : decode cX5_writeFirstWay 122 = .ok (.iinc 5 1, 3) := by decide +kernel
theorem dX5_writeFirstWay_125 : decode cX5_writeFirstWay 125 = .ok (.goto (-100), 3) := by decide +kernel
theorem dX5_writeFirstWay_128 : decode cX5_writeFirstWay 128 = .ok (.return_, 1) := by decide +kernel
theorem dX5_rightNumber_0 : decode cX5_rightNumber 0 = .ok (.iload_n 0, 1) := by decide +kernel
theorem dX5_rightNumber_1 : decode cX5_rightNumber 1 = .ok (.tableswitch 53 0 2 #[27, 31, 35], 27) := by decide +kernel
theorem dX5_rightNumber_28 : decode cX5_rightNumber 28 = .ok (.iload_n 2, 1) := by decide +kernel
theorem dX5_rightNumber_29 : decode cX5_rightNumber 29 = .ok (.iload_n 1, 1) := by decide +kernel
theorem dX5_rightNumber_30 : decode cX5_rightNumber 30 = .ok (.isub, 1) := by decide +kernel
theorem dX5_rightNumber_31 : decode cX5_rightNumber 31 = .ok (.ireturn, 1) := by decide +kernel
theorem dX5_rightNumber_32 : decode cX5_rightNumber 32 = .ok (.iload_n 1, 1) := by decide +kernel
theorem dX5_rightNumber_33 : decode cX5_rightNumber 33 = .ok (.iload_n 2, 1) := by decide +kernel
theorem dX5_rightNumber_34 : decode cX5_rightNumber 34 = .ok (.isub, 1) := by decide +kernel
theorem dX5_rightNumber_35 : decode cX5_rightNumber 35 = .ok (.ireturn, 1) := by decide +kernel
theorem dX5_rightNumber_36 : decode cX5_rightNumber 36 = .ok (.iload_n 1, 1) := by decide +kernel
theorem dX5_rightNumber_37 : decode cX5_rightNumber 37 = .ok (.ifCond .le 15, 3) := by decide +kernel
theorem dX5_rightNumber_40 : decode cX5_rightNumber 40 = .ok (.iload_n 2, 1) := by decide +kernel
theorem dX5_rightNumber_41 : decode cX5_rightNumber 41 = .ok (.iload_n 1, 1) := by decide +kernel
theorem dX5_rightNumber_42 : decode cX5_rightNumber 42 = .ok (.irem, 1) := by decide +kernel
theorem dX5_rightNumber_43 : decode cX5_rightNumber 43 = .ok (.ifCond .ne 9, 3) := by decide +kernel
theorem dX5_rightNumber_46 : decode cX5_rightNumber 46 = .ok (.iload_n 2, 1) := by decide +kernel
theorem dX5_rightNumber_47 : decode cX5_rightNumber 47 = .ok (.iload_n 1, 1) := by decide +kernel
theorem dX5_rightNumber_48 : decode cX5_rightNumber 48 = .ok (.idiv, 1) := by decide +kernel
theorem dX5_rightNumber_49 : decode cX5_rightNumber 49 = .ok (.goto 4, 3) := by decide +kernel
theorem dX5_rightNumber_52 : decode cX5_rightNumber 52 = .ok (.iconst (-1), 1) := by decide +kernel
theorem dX5_rightNumber_53 : decode cX5_rightNumber 53 = .ok (.ireturn, 1) := by decide +kernel
theorem dX5_rightNumber_54 : decode cX5_rightNumber 54 = .ok (.iload_n 2, 1) := by decide +kernel
theorem dX5_rightNumber_55 : decode cX5_rightNumber 55 = .ok (.ifCond .le 15, 3) := by decide +kernel
theorem dX5_rightNumber_58 : decode cX5_rightNumber 58 = .ok (.iload_n 1, 1) := by decide +kernel
theorem dX5_rightNumber_59 : decode cX5_rightNumber 59 = .ok (.iload_n 2, 1) := by decide +kernel
theorem dX5_rightNumber_60 : decode cX5_rightNumber 60 = .ok (.irem, 1) := by decide +kernel
theorem dX5_rightNumber_61 : decode cX5_rightNumber 61 = .ok (.ifCond .ne 9, 3) := by decide +kernel
theorem dX5_rightNumber_64 : decode cX5_rightNumber 64 = .ok (.iload_n 1, 1) := by decide +kernel
theorem dX5_rightNumber_65 : decode cX5_rightNumber 65 = .ok (.iload_n 2, 1) := by decide +kernel
theorem dX5_rightNumber_66 : decode cX5_rightNumber 66 = .ok (.idiv, 1) := by decide +kernel
theorem dX5_rightNumber_67 : decode cX5_rightNumber 67 = .ok (.goto 4, 3) := by decide +kernel
theorem dX5_rightNumber_70 : decode cX5_rightNumber 70 = .ok (.iconst (-1), 1) := by decide +kernel
theorem dX5_rightNumber_71 : decode cX5_rightNumber 71 = .ok (.ireturn, 1) := by decide +kernel
theorem dX5_greatestCommonDivisor_0 : decode cX5_greatestCommonDivisor 0 = .ok (.iload_n 0, 1) := by decide +kernel
theorem dX5_greatestCommonDivisor_1 : decode cX5_greatestCommonDivisor 1 = .ok (.iconst 1, 1) := by decide +kernel
theorem dX5_greatestCommonDivisor_2 : decode cX5_greatestCommonDivisor 2 = .ok (.invokestatic 195, 3) := by decide +kernel
theorem dX5_greatestCommonDivisor_5 : decode cX5_greatestCommonDivisor 5 = .ok (.istore_n 2, 1) := by decide +kernel
theorem dX5_greatestCommonDivisor_6 : decode cX5_greatestCommonDivisor 6 = .ok (.iconst 2, 1) := by decide +kernel
theorem dX5_greatestCommonDivisor_7 : decode cX5_greatestCommonDivisor 7 = .ok (.istore_n 3, 1) := by decide +kernel
theorem dX5_greatestCommonDivisor_8 : decode cX5_greatestCommonDivisor 8 = .ok (.iload_n 3, 1) := by decide +kernel
theorem dX5_greatestCommonDivisor_9 : decode cX5_greatestCommonDivisor 9 = .ok (.iload_n 0, 1) := by decide +kernel
theorem dX5_greatestCommonDivisor_10 : decode cX5_greatestCommonDivisor 10 = .ok (.if_icmp .gt 23, 3) := by decide +kernel
theorem dX5_greatestCommonDivisor_13 : decode cX5_greatestCommonDivisor 13 = .ok (.iload_n 0, 1) := by decide +kernel
theorem dX5_greatestCommonDivisor_14 : decode cX5_greatestCommonDivisor 14 = .ok (.iload_n 3, 1) := by decide +kernel
theorem dX5_greatestCommonDivisor_15 : decode cX5_greatestCommonDivisor 15 = .ok (.irem, 1) := by decide +kernel
theorem dX5_greatestCommonDivisor_16 : decode cX5_greatestCommonDivisor 16 = .ok (.ifCond .ne 11, 3) := by decide +kernel
theorem dX5_greatestCommonDivisor_19 : decode cX5_greatestCommonDivisor 19 = .ok (.iload_n 1, 1) := by decide +kernel
theorem dX5_greatestCommonDivisor_20 : decode cX5_greatestCommonDivisor 20 = .ok (.iload_n 3, 1) := by decide +kernel
theorem dX5_greatestCommonDivisor_21 : decode cX5_greatestCommonDivisor 21 = .ok (.irem, 1) := by decide +kernel
theorem dX5_greatestCommonDivisor_22 : decode cX5_greatestCommonDivisor 22 = .ok (.ifCond .ne 5, 3) := by decide +kernel
theorem dX5_greatestCommonDivisor_25 : decode cX5_greatestCommonDivisor 25 = .ok (.iload_n 3, 1) := by decide +kernel
theorem dX5_greatestCommonDivisor_26 : decode cX5_greatestCommonDivisor 26 = .ok (.istore_n 2, 1) := by decide +kernel
theorem dX5_greatestCommonDivisor_27 : decode cX5_greatestCommonDivisor 27 = .ok (.iinc 3 1, 3) := by decide +kernel
theorem dX5_greatestCommonDivisor_30 : decode cX5_greatestCommonDivisor 30 = .ok (.goto (-22), 3) := by decide +kernel
theorem dX5_greatestCommonDivisor_33 : decode cX5_greatestCommonDivisor 33 = .ok (.iload_n 2, 1) := by decide +kernel
theorem dX5_greatestCommonDivisor_34 : decode cX5_greatestCommonDivisor 34 = .ok (.ireturn, 1) := by decide +kernel
set_option maxRecDepth 20000 in
theorem ggX5_firstSpan_J6_bitCount_0f7a4 : GoodIn wsX5_firstSpan wsJ6_bitCount_0f7a4 := goodIn_r _ [4, 5, 6, 7] (by decide +kernel) (by decide +kernel)
set_option maxRecDepth 20000 in
theorem gX5_firstSpan_J6_bitCount_0f7a4 : GoodIn wsX5_firstSpan (va_wsS RX5 127 yJ6_bitCount_0f7a4 wsJ6_bitCount_0f7a4) := goodIn_app (goodIn_of _ (by decide +kernel)) ggX5_firstSpan_J6_bitCount_0f7a4
set_option maxRecDepth 20000 in
theorem ggX5_firstSpan_X5_spans : GoodIn wsX5_firstSpan wsX5_spans := goodIn_r _ [12, 13, 14, 15, 11, 16, 17, 18, 19, 20, 21, 22, 23, 24, 25, 26, 27, 28, 29, 30, 31, 32, 33, 34, 35, 36, 37, 38, 39, 40, 41, 42, 43, 44, 45, 46, 47, 48, 49, 50, 51, 52, 53, 54, 55, 56, 57, 58, 59, 60, 61, 62, 63, 64, 65, 66, 67, 68, 69, 70, 71, 72, 73, 74, 75, 76, 77, 78, 79, 80, 81, 82, 83, 84, 85, 86, 87, 88, 89, 90, 91, 92, 93, 94, 95, 96, 97] (by decide +kernel) (by decide +kernel)
set_option maxRecDepth 20000 in
theorem gX5_firstSpan_X5_spans : GoodIn wsX5_firstSpan (wsV RX5 200 RX5 yX5_spans wsX5_spans) := goodIn_app (goodIn_of _ (by decide +kernel)) ggX5_firstSpan_X5_spans
theorem dX5_firstSpan_0 : decode cX5_firstSpan 0 = .ok (.sipush 4095, 3) := by decide +kernel
theorem dX5_firstSpan_3 : decode cX5_firstSpan 3 = .ok (.istore_n 3, 1) := by decide +kernel
theorem dX5_firstSpan_4 : decode cX5_firstSpan 4 = .ok (.iload_n 3, 1) := by decide +kernel
theorem dX5_firstSpan_5 : decode cX5_firstSpan 5 = .ok (.ifCond .le 28, 3) := by decide +kernel
theorem dX5_firstSpan_8 : decode cX5_firstSpan 8 = .ok (.iload_n 3, 1) := by decide +kernel
theorem dX5_firstSpan_9 : decode cX5_firstSpan 9 = .ok (.invokestatic 127, 3) := by decide +kernel
theorem dX5_firstSpan_12 : decode cX5_firstSpan 12 = .ok (.iload_n 1, 1) := by decide +kernel
theorem dX5_firstSpan_13 : decode cX5_firstSpan 13 = .ok (.if_icmp .ne 14, 3) := by decide +kernel
theorem dX5_firstSpan_16 : decode cX5_firstSpan 16 = .ok (.aload_n 0, 1) := by decide +kernel
theorem dX5_firstSpan_17 : decode cX5_firstSpan 17 = .ok (.iload_n 3, 1) := by decide +kernel
theorem dX5_firstSpan_18 : decode cX5_firstSpan 18 = .ok (.iload_n 2, 1) := by decide +kernel
theorem dX5_firstSpan_19 : decode cX5_firstSpan 19 = .ok (.invokevirtual 200, 3) := by decide +kernel
theorem dX5_firstSpan_22 : decode cX5_firstSpan 22 = .ok (.ifCond .eq 5, 3) := by decide +kernel
theorem dX5_firstSpan_25 : decode cX5_firstSpan 25 = .ok (.iload_n 3, 1) := by decide +kernel
theorem dX5_firstSpan_26 : decode cX5_firstSpan 26 = .ok (.ireturn, 1) := by decide +kernel
theorem dX5_firstSpan_27 : decode cX5_firstSpan 27 = .ok (.iinc 3 (-1), 3) := by decide +kernel
theorem dX5_firstSpan_30 : decode cX5_firstSpan 30 = .ok (.goto (-26), 3) := by decide +kernel
theorem dX5_firstSpan_33 : decode cX5_firstSpan 33 = .ok (.iconst 0, 1) := by decide +kernel
theorem dX5_firstSpan_34 : decode cX5_firstSpan 34 = .ok (.ireturn, 1) := by decide +kernel
set_option maxRecDepth 20000 in
theorem ggX5_spans_X5_isInSpan : GoodIn wsX5_spans wsX5_isInSpan := goodIn_r _ [5] (by decide +kernel) (by decide +kernel)
set_option maxRecDepth 20000 in
theorem gX5_spans_X5_isInSpan : GoodIn wsX5_spans (va_wsS RX5 204 yX5_isInSpan wsX5_isInSpan) := goodIn_app (goodIn_of _ (by decide +kernel)) ggX5_spans_X5_isInSpan
set_option maxRecDepth 20000 in
theorem ggX5_spans_X1_place : GoodIn wsX5_spans wsX1_place := goodIn_r _ [10, 11, 12, 13, 14, 15, 16, 17, 77, 78, 79, 80, 81, 82, 83, 84] (by decide +kernel) (by decide +kernel)
set_option maxRecDepth 20000 in
theorem gX5_spans_X1_place : GoodIn wsX5_spans (wsV RX5 59 RX1 yX1_place wsX1_place) := goodIn_app (goodIn_of _ (by decide +kernel)) ggX5_spans_X1_place
set_option maxRecDepth 20000 in
theorem ggX5_spans_X1_shorten : GoodIn wsX5_spans wsX1_shorten := goodIn_r _ [21, 11, 17, 22, 23, 15, 24, 77, 78, 79, 80, 81, 82, 83, 84] (by decide +kernel) (by decide +kernel)
set_option maxRecDepth 20000 in
theorem gX5_spans_X1_shorten : GoodIn wsX5_spans (wsV RX5 67 RX1 yX1_shorten wsX1_shorten) := goodIn_app (goodIn_of _ (by decide +kernel)) ggX5_spans_X1_shorten
set_option maxRecDepth 20000 in
theorem ggX5_spans_X1_refresh : GoodIn wsX5_spans wsX1_refresh := goodIn_r _ [28, 17, 29, 30, 31, 32, 9, 33, 34, 35, 36, 37, 38, 39, 40, 11, 41, 42, 43, 44, 12, 45, 46, 47, 48, 49, 50, 51, 52, 53, 54, 55, 15, 56, 57, 58, 59, 60, 61, 62, 77, 78, 79, 80, 81, 82, 83, 84, 85, 86] (by decide +kernel) (by decide +kernel)
set_option maxRecDepth 20000 in
theorem gX5_spans_X1_refresh : GoodIn wsX5_spans (wsV RX5 96 RX1 yX1_refresh wsX1_refresh) := goodIn_app (goodIn_of _ (by decide +kernel)) ggX5_spans_X1_refresh
set_option maxRecDepth 20000 in
theorem ggX5_spans_X1_leastNotReached : GoodIn wsX5_spans wsX1_leastNotReached := goodIn_r _ [66, 67, 68, 69, 9, 70, 36, 77, 78, 79, 80, 81, 82, 83, 84] (by decide +kernel) (by decide +kernel)
set_option maxRecDepth 20000 in
theorem gX5_spans_X1_leastNotReached : GoodIn wsX5_spans (wsV RX5 117 RX1 yX1_leastNotReached wsX1_leastNotReached) := goodIn_app (goodIn_of _ (by decide +kernel)) ggX5_spans_X1_leastNotReached
theorem dX5_spans_0 : decode cX5_spans 0 = .ok (.iconst 0, 1) := by decide +kernel
theorem dX5_spans_1 : decode cX5_spans 1 = .ok (.istore_n 3, 1) := by decide +kernel
theorem dX5_spans_2 : decode cX5_spans 2 = .ok (.iconst 1, 1) := by decide +kernel
theorem dX5_spans_3 : decode cX5_spans 3 = .ok (.istore 4, 2) := by decide +kernel
theorem dX5_spans_5 : decode cX5_spans 5 = .ok (.iload 4, 2) := by decide +kernel
theorem dX5_spans_7 : decode cX5_spans 7 = .ok (.bipush 12, 2) := by decide +kernel
theorem dX5_spans_9 : decode cX5_spans 9 = .ok (.if_icmp .gt 31, 3) := by decide +kernel
theorem dX5_spans_12 : decode cX5_spans 12 = .ok (.iload_n 1, 1) := by decide +kernel
theorem dX5_spans_13 : decode cX5_spans 13 = .ok (.iload 4, 2) := by decide +kernel
theorem dX5_spans_15 : decode cX5_spans 15 = .ok (.invokestatic 204, 3) := by decide +kernel
theorem dX5_spans_18 : decode cX5_spans 18 = .ok (.ifCond .eq 16, 3) := by decide +kernel
theorem dX5_spans_21 : decode cX5_spans 21 = .ok (.aload_n 0, 1) := by decide +kernel
theorem dX5_spans_22 : decode cX5_spans 22 = .ok (.getfield 25, 3) := by decide +kernel
theorem dX5_spans_25 : decode cX5_spans 25 = .ok (.iload_n 3, 1) := by decide +kernel
theorem dX5_spans_26 : decode cX5_spans 26 = .ok (.iload 4, 2) := by decide +kernel
theorem dX5_spans_28 : decode cX5_spans 28 = .ok (.invokevirtual 59, 3) := by decide +kernel
theorem dX5_spans_31 : decode cX5_spans 31 = .ok (.iinc 3 1, 3) := by decide +kernel
theorem dX5_spans_34 : decode cX5_spans 34 = .ok (.iinc 4 1, 3) := by decide +kernel
theorem dX5_spans_37 : decode cX5_spans 37 = .ok (.goto (-32), 3) := by decide +kernel
theorem dX5_spans_40 : decode cX5_spans 40 = .ok (.aload_n 0, 1) := by decide +kernel
theorem dX5_spans_41 : decode cX5_spans 41 = .ok (.getfield 25, 3) := by decide +kernel
theorem dX5_spans_44 : decode cX5_spans 44 = .ok (.iload_n 3, 1) := by decide +kernel
theorem dX5_spans_45 : decode cX5_spans 45 = .ok (.invokevirtual 67, 3) := by decide +kernel
theorem dX5_spans_48 : decode cX5_spans 48 = .ok (.aload_n 0, 1) := by decide +kernel
theorem dX5_spans_49 : decode cX5_spans 49 = .ok (.getfield 25, 3) := by decide +kernel
theorem dX5_spans_52 : decode cX5_spans 52 = .ok (.invokevirtual 96, 3) := by decide +kernel
theorem dX5_spans_55 : decode cX5_spans 55 = .ok (.aload_n 0, 1) := by decide +kernel
theorem dX5_spans_56 : decode cX5_spans 56 = .ok (.getfield 25, 3) := by decide +kernel
theorem dX5_spans_59 : decode cX5_spans 59 = .ok (.invokevirtual 117, 3) := by decide +kernel
theorem dX5_spans_62 : decode cX5_spans 62 = .ok (.iload_n 2, 1) := by decide +kernel
theorem dX5_spans_63 : decode cX5_spans 63 = .ok (.if_icmp .le 7, 3) := by decide +kernel
theorem dX5_spans_66 : decode cX5_spans 66 = .ok (.iconst 1, 1) := by decide +kernel
theorem dX5_spans_67 : decode cX5_spans 67 = .ok (.goto 4, 3) := by decide +kernel
theorem dX5_spans_70 : decode cX5_spans 70 = .ok (.iconst 0, 1) := by decide +kernel
theorem dX5_spans_71 : decode cX5_spans 71 = .ok (.ireturn, 1) := by decide +kernel
theorem dX5_isInSpan_0 : decode cX5_isInSpan 0 = .ok (.iload_n 0, 1) := by decide +kernel
theorem dX5_isInSpan_1 : decode cX5_isInSpan 1 = .ok (.iconst 1, 1) := by decide +kernel
theorem dX5_isInSpan_2 : decode cX5_isInSpan 2 = .ok (.bipush 12, 2) := by decide +kernel
theorem dX5_isInSpan_4 : decode cX5_isInSpan 4 = .ok (.iload_n 1, 1) := by decide +kernel
theorem dX5_isInSpan_5 : decode cX5_isInSpan 5 = .ok (.isub, 1) := by decide +kernel
theorem dX5_isInSpan_6 : decode cX5_isInSpan 6 = .ok (.ishl, 1) := by decide +kernel
theorem dX5_isInSpan_7 : decode cX5_isInSpan 7 = .ok (.iand, 1) := by decide +kernel
theorem dX5_isInSpan_8 : decode cX5_isInSpan 8 = .ok (.ifCond .eq 7, 3) := by decide +kernel
theorem dX5_isInSpan_11 : decode cX5_isInSpan 11 = .ok (.iconst 1, 1) := by decide +kernel
theorem dX5_isInSpan_12 : decode cX5_isInSpan 12 = .ok (.goto 4, 3) := by decide +kernel
theorem dX5_isInSpan_15 : decode cX5_isInSpan 15 = .ok (.iconst 0, 1) := by decide +kernel
theorem dX5_isInSpan_16 : decode cX5_isInSpan 16 = .ok (.ireturn, 1) := by decide +kernel
set_option maxRecDepth 20000 in
theorem ggX5_spanNumber_X5_isInSpan : GoodIn wsX5_spanNumber wsX5_isInSpan := goodIn_r _ [4] (by decide +kernel) (by decide +kernel)
set_option maxRecDepth 20000 in
theorem gX5_spanNumber_X5_isInSpan : GoodIn wsX5_spanNumber (va_wsS RX5 204 yX5_isInSpan wsX5_isInSpan) := goodIn_app (goodIn_of _ (by decide +kernel)) ggX5_spanNumber_X5_isInSpan
theorem dX5_spanNumber_0 : decode cX5_spanNumber 0 = .ok (.iconst 0, 1) := by decide +kernel
theorem dX5_spanNumber_1 : decode cX5_spanNumber 1 = .ok (.istore_n 2, 1) := by decide +kernel
theorem dX5_spanNumber_2 : decode cX5_spanNumber 2 = .ok (.iconst 1, 1) := by decide +kernel
theorem dX5_spanNumber_3 : decode cX5_spanNumber 3 = .ok (.istore_n 3, 1) := by decide +kernel
theorem dX5_spanNumber_4 : decode cX5_spanNumber 4 = .ok (.iload_n 3, 1) := by decide +kernel
theorem dX5_spanNumber_5 : decode cX5_spanNumber 5 = .ok (.bipush 12, 2) := by decide +kernel
theorem dX5_spanNumber_7 : decode cX5_spanNumber 7 = .ok (.if_icmp .gt 27, 3) := by decide +kernel
theorem dX5_spanNumber_10 : decode cX5_spanNumber 10 = .ok (.iload_n 0, 1) := by decide +kernel
theorem dX5_spanNumber_11 : decode cX5_spanNumber 11 = .ok (.iload_n 3, 1) := by decide +kernel
theorem dX5_spanNumber_12 : decode cX5_spanNumber 12 = .ok (.invokestatic 204, 3) := by decide +kernel
theorem dX5_spanNumber_15 : decode cX5_spanNumber 15 = .ok (.ifCond .eq 13, 3) := by decide +kernel
theorem dX5_spanNumber_18 : decode cX5_spanNumber 18 = .ok (.iload_n 2, 1) := by decide +kernel
theorem dX5_spanNumber_19 : decode cX5_spanNumber 19 = .ok (.iload_n 1, 1) := by decide +kernel
theorem dX5_spanNumber_20 : decode cX5_spanNumber 20 = .ok (.if_icmp .ne 5, 3) := by decide +kernel
theorem dX5_spanNumber_23 : decode cX5_spanNumber 23 = .ok (.iload_n 3, 1) := by decide +kernel
theorem dX5_spanNumber_24 : decode cX5_spanNumber 24 = .ok (.ireturn, 1) := by decide +kernel
theorem dX5_spanNumber_25 : decode cX5_spanNumber 25 = .ok (.iinc 2 1, 3) := by decide +kernel
theorem dX5_spanNumber_28 : decode cX5_spanNumber 28 = .ok (.iinc 3 1, 3) := by decide +kernel
theorem dX5_spanNumber_31 : decode cX5_spanNumber 31 = .ok (.goto (-27), 3) := by decide +kernel
theorem dX5_spanNumber_34 : decode cX5_spanNumber 34 = .ok (.iconst (-1), 1) := by decide +kernel
theorem dX5_spanNumber_35 : decode cX5_spanNumber 35 = .ok (.ireturn, 1) := by decide +kernel
theorem dX6_init_0 : decode cX6_init 0 = .ok (.aload_n 0, 1) := by decide +kernel
theorem dX6_init_1 : decode cX6_init 1 = .ok (.invokespecial 1, 3) := by decide +kernel
theorem dX6_init_4 : decode cX6_init 4 = .ok (.aload_n 0, 1) := by decide +kernel
theorem dX6_init_5 : decode cX6_init 5 = .ok (.bipush 6, 2) := by decide +kernel
theorem dX6_init_7 : decode cX6_init 7 = .ok (.newarray .int, 2) := by decide +kernel
theorem dX6_init_9 : decode cX6_init 9 = .ok (.putfield 7, 3) := by decide +kernel
theorem dX6_init_12 : decode cX6_init 12 = .ok (.aload_n 0, 1) := by decide +kernel
theorem dX6_init_13 : decode cX6_init 13 = .ok (.bipush 15, 2) := by decide +kernel
theorem dX6_init_15 : decode cX6_init 15 = .ok (.putfield 13, 3) := by decide +kernel
theorem dX6_init_18 : decode cX6_init 18 = .ok (.aload_n 0, 1) := by decide +kernel
theorem dX6_init_19 : decode cX6_init 19 = .ok (.sipush 3000, 3) := by decide +kernel
theorem dX6_init_22 : decode cX6_init 22 = .ok (.putfield 17, 3) := by decide +kernel
theorem dX6_init_25 : decode cX6_init 25 = .ok (.aload_n 0, 1) := by decide +kernel
theorem dX6_init_26 : decode cX6_init 26 = .ok (.bipush 10, 2) := by decide +kernel
theorem dX6_init_28 : decode cX6_init 28 = .ok (.newarray .int, 2) := by decide +kernel
theorem dX6_init_30 : decode cX6_init 30 = .ok (.putfield 20, 3) := by decide +kernel
theorem dX6_init_33 : decode cX6_init 33 = .ok (.aload_n 0, 1) := by decide +kernel
theorem dX6_init_34 : decode cX6_init 34 = .ok (.bipush 100, 2) := by decide +kernel
theorem dX6_init_36 : decode cX6_init 36 = .ok (.newarray .int, 2) := by decide +kernel
theorem dX6_init_38 : decode cX6_init 38 = .ok (.putfield 23, 3) := by decide +kernel
theorem dX6_init_41 : decode cX6_init 41 = .ok (.aload_n 0, 1) := by decide +kernel
theorem dX6_init_42 : decode cX6_init 42 = .ok (.bipush 6, 2) := by decide +kernel
theorem dX6_init_44 : decode cX6_init 44 = .ok (.newarray .int, 2) := by decide +kernel
theorem dX6_init_46 : decode cX6_init 46 = .ok (.putfield 26, 3) := by decide +kernel
theorem dX6_init_49 : decode cX6_init 49 = .ok (.aload_n 0, 1) := by decide +kernel
theorem dX6_init_50 : decode cX6_init 50 = .ok (.ldc 29, 2) := by decide +kernel
theorem dX6_init_52 : decode cX6_init 52 = .ok (.newarray .long, 2) := by decide +kernel
theorem dX6_init_54 : decode cX6_init 54 = .ok (.putfield 30, 3) := by decide +kernel
theorem dX6_init_57 : decode cX6_init 57 = .ok (.aload_n 0, 1) := by decide +kernel
theorem dX6_init_58 : decode cX6_init 58 = .ok (.sipush 3001, 3) := by decide +kernel
theorem dX6_init_61 : decode cX6_init 61 = .ok (.newarray .int, 2) := by decide +kernel
theorem dX6_init_63 : decode cX6_init 63 = .ok (.putfield 34, 3) := by decide +kernel
theorem dX6_init_66 : decode cX6_init 66 = .ok (.aload_n 0, 1) := by decide +kernel
theorem dX6_init_67 : decode cX6_init 67 = .ok (.sipush 3001, 3) := by decide +kernel
theorem dX6_init_70 : decode cX6_init 70 = .ok (.newarray .int, 2) := by decide +kernel
theorem dX6_init_72 : decode cX6_init 72 = .ok (.putfield 37, 3) := by decide +kernel
theorem dX6_init_75 : decode cX6_init 75 = .ok (.aload_n 0, 1) := by decide +kernel
theorem dX6_init_76 : decode cX6_init 76 = .ok (.bipush 40, 2) := by decide +kernel
theorem dX6_init_78 : decode cX6_init 78 = .ok (.newarray .int, 2) := by decide +kernel
theorem dX6_init_80 : decode cX6_init 80 = .ok (.putfield 40, 3) := by decide +kernel
theorem dX6_init_83 : decode cX6_init 83 = .ok (.aload_n 0, 1) := by decide +kernel
theorem dX6_init_84 : decode cX6_init 84 = .ok (.bipush 40, 2) := by decide +kernel
theorem dX6_init_86 : decode cX6_init 86 = .ok (.newarray .int, 2) := by decide +kernel
theorem dX6_init_88 : decode cX6_init 88 = .ok (.putfield 43, 3) := by decide +kernel
theorem dX6_init_91 : decode cX6_init 91 = .ok (.aload_n 0, 1) := by decide +kernel
theorem dX6_init_92 : decode cX6_init 92 = .ok (.bipush 101, 2) := by decide +kernel
theorem dX6_init_94 : decode cX6_init 94 = .ok (.newarray .int, 2) := by decide +kernel
theorem dX6_init_96 : decode cX6_init 96 = .ok (.putfield 46, 3) := by decide +kernel
theorem dX6_init_99 : decode cX6_init 99 = .ok (.aload_n 0, 1) := by decide +kernel
theorem dX6_init_100 : decode cX6_init 100 = .ok (.sipush 5041, 3) := by decide +kernel
theorem dX6_init_103 : decode cX6_init 103 = .ok (.newarray .int, 2) := by decide +kernel
theorem dX6_init_105 : decode cX6_init 105 = .ok (.putfield 49, 3) := by decide +kernel
theorem dX6_init_108 : decode cX6_init 108 = .ok (.aload_n 0, 1) := by decide +kernel
theorem dX6_init_109 : decode cX6_init 109 = .ok (.sipush 5041, 3) := by decide +kernel
theorem dX6_init_112 : decode cX6_init 112 = .ok (.newarray .int, 2) := by decide +kernel
theorem dX6_init_114 : decode cX6_init 114 = .ok (.putfield 52, 3) := by decide +kernel
theorem dX6_init_117 : decode cX6_init 117 = .ok (.return_, 1) := by decide +kernel
theorem dX6_in_0 : decode cX6_in 0 = .ok (.lload_n 0, 1) := by decide +kernel
theorem dX6_in_1 : decode cX6_in 1 = .ok (.lload_n 2, 1) := by decide +kernel
theorem dX6_in_2 : decode cX6_in 2 = .ok (.lcmp, 1) := by decide +kernel
theorem dX6_in_3 : decode cX6_in 3 = .ok (.ifCond .lt 14, 3) := by decide +kernel
theorem dX6_in_6 : decode cX6_in 6 = .ok (.lload_n 0, 1) := by decide +kernel
theorem dX6_in_7 : decode cX6_in 7 = .ok (.lload 4, 2) := by decide +kernel
theorem dX6_in_9 : decode cX6_in 9 = .ok (.lcmp, 1) := by decide +kernel
theorem dX6_in_10 : decode cX6_in 10 = .ok (.ifCond .gt 7, 3) := by decide +kernel
theorem dX6_in_13 : decode cX6_in 13 = .ok (.iconst 1, 1) := by decide +kernel
theorem dX6_in_14 : decode cX6_in 14 = .ok (.goto 4, 3) := by decide +kernel
theorem dX6_in_17 : decode cX6_in 17 = .ok (.iconst 0, 1) := by decide +kernel
theorem dX6_in_18 : decode cX6_in 18 = .ok (.ireturn, 1) := by decide +kernel
theorem dX6_bits_0 : decode cX6_bits 0 = .ok (.iconst 0, 1) := by decide +kernel
theorem dX6_bits_1 : decode cX6_bits 1 = .ok (.istore_n 1, 1) := by decide +kernel
theorem dX6_bits_2 : decode cX6_bits 2 = .ok (.iconst 0, 1) := by decide +kernel
theorem dX6_bits_3 : decode cX6_bits 3 = .ok (.istore_n 2, 1) := by decide +kernel
theorem dX6_bits_4 : decode cX6_bits 4 = .ok (.iload_n 2, 1) := by decide +kernel
theorem dX6_bits_5 : decode cX6_bits 5 = .ok (.bipush 10, 2) := by decide +kernel
theorem dX6_bits_7 : decode cX6_bits 7 = .ok (.if_icmp .ge 17, 3) := by decide +kernel
theorem dX6_bits_10 : decode cX6_bits 10 = .ok (.iload_n 1, 1) := by decide +kernel
theorem dX6_bits_11 : decode cX6_bits 11 = .ok (.iload_n 0, 1) := by decide +kernel
theorem dX6_bits_12 : decode cX6_bits 12 = .ok (.iload_n 2, 1) := by decide +kernel
theorem dX6_bits_13 : decode cX6_bits 13 = .ok (.ishr, 1) := by decide +kernel
theorem dX6_bits_14 : decode cX6_bits 14 = .ok (.iconst 1, 1) := by decide +kernel
theorem dX6_bits_15 : decode cX6_bits 15 = .ok (.iand, 1) := by decide +kernel
theorem dX6_bits_16 : decode cX6_bits 16 = .ok (.iadd, 1) := by decide +kernel
theorem dX6_bits_17 : decode cX6_bits 17 = .ok (.istore_n 1, 1) := by decide +kernel
theorem dX6_bits_18 : decode cX6_bits 18 = .ok (.iinc 2 1, 3) := by decide +kernel
theorem dX6_bits_21 : decode cX6_bits 21 = .ok (.goto (-17), 3) := by decide +kernel
theorem dX6_bits_24 : decode cX6_bits 24 = .ok (.iload_n 1, 1) := by decide +kernel
theorem dX6_bits_25 : decode cX6_bits 25 = .ok (.ireturn, 1) := by decide +kernel
set_option maxRecDepth 20000 in
theorem ggX6_item_X6_in : GoodIn wsX6_item wsX6_in := goodIn_r _ [8] (by decide +kernel) (by decide +kernel)
set_option maxRecDepth 20000 in
theorem gX6_item_X6_in : GoodIn wsX6_item (va_wsS RX6 57 yX6_in wsX6_in) := goodIn_app (goodIn_of _ (by decide +kernel)) ggX6_item_X6_in
theorem dX6_item_0 : decode cX6_item 0 = .ok (.iload_n 1, 1) := by decide +kernel
theorem dX6_item_1 : decode cX6_item 1 = .ok (.i2l, 1) := by decide +kernel
theorem dX6_item_2 : decode cX6_item 2 = .ok (.lconst 1, 1) := by decide +kernel
theorem dX6_item_3 : decode cX6_item 3 = .ok (.ldc2_w 55, 3) := by decide +kernel
theorem dX6_item_6 : decode cX6_item 6 = .ok (.invokestatic 57, 3) := by decide +kernel
theorem dX6_item_9 : decode cX6_item 9 = .ok (.ifCond .ne 7, 3) := by decide +kernel
theorem dX6_item_12 : decode cX6_item 12 = .ok (.sipush (-1002), 3) := by decide +kernel
theorem dX6_item_15 : decode cX6_item 15 = .ok (.ireturn, 1) := by decide +kernel
theorem dX6_item_16 : decode cX6_item 16 = .ok (.aload_n 0, 1) := by decide +kernel
theorem dX6_item_17 : decode cX6_item 17 = .ok (.getfield 61, 3) := by decide +kernel
theorem dX6_item_20 : decode cX6_item 20 = .ok (.bipush 6, 2) := by decide +kernel
theorem dX6_item_22 : decode cX6_item 22 = .ok (.if_icmp .ne 7, 3) := by decide +kernel
theorem dX6_item_25 : decode cX6_item 25 = .ok (.sipush (-1004), 3) := by decide +kernel
theorem dX6_item_28 : decode cX6_item 28 = .ok (.ireturn, 1) := by decide +kernel
theorem dX6_item_29 : decode cX6_item 29 = .ok (.aload_n 0, 1) := by decide +kernel
theorem dX6_item_30 : decode cX6_item 30 = .ok (.getfield 7, 3) := by decide +kernel
theorem dX6_item_33 : decode cX6_item 33 = .ok (.aload_n 0, 1) := by decide +kernel
theorem dX6_item_34 : decode cX6_item 34 = .ok (.getfield 61, 3) := by decide +kernel
theorem dX6_item_37 : decode cX6_item 37 = .ok (.iload_n 1, 1) := by decide +kernel
theorem dX6_item_38 : decode cX6_item 38 = .ok (.iastore, 1) := by decide +kernel
theorem dX6_item_39 : decode cX6_item 39 = .ok (.aload_n 0, 1) := by decide +kernel
theorem dX6_item_40 : decode cX6_item 40 = .ok (.dup, 1) := by decide +kernel
theorem dX6_item_41 : decode cX6_item 41 = .ok (.getfield 61, 3) := by decide +kernel
theorem dX6_item_44 : decode cX6_item 44 = .ok (.iconst 1, 1) := by decide +kernel
theorem dX6_item_45 : decode cX6_item 45 = .ok (.iadd, 1) := by decide +kernel
theorem dX6_item_46 : decode cX6_item 46 = .ok (.putfield 61, 3) := by decide +kernel
theorem dX6_item_49 : decode cX6_item 49 = .ok (.aload_n 0, 1) := by decide +kernel
theorem dX6_item_50 : decode cX6_item 50 = .ok (.iconst 0, 1) := by decide +kernel
theorem dX6_item_51 : decode cX6_item 51 = .ok (.putfield 64, 3) := by decide +kernel
theorem dX6_item_54 : decode cX6_item 54 = .ok (.aload_n 0, 1) := by decide +kernel
theorem dX6_item_55 : decode cX6_item 55 = .ok (.getfield 61, 3) := by decide +kernel
theorem dX6_item_58 : decode cX6_item 58 = .ok (.iconst 1, 1) := by decide +kernel
theorem dX6_item_59 : decode cX6_item 59 = .ok (.isub, 1) := by decide +kernel
theorem dX6_item_60 : decode cX6_item 60 = .ok (.ireturn, 1) := by decide +kernel
set_option maxRecDepth 20000 in
theorem ggX6_set_X6_in : GoodIn wsX6_set wsX6_in := goodIn_r _ [8] (by decide +kernel) (by decide +kernel)
set_option maxRecDepth 20000 in
theorem gX6_set_X6_in : GoodIn wsX6_set (va_wsS RX6 57 yX6_in wsX6_in) := goodIn_app (goodIn_of _ (by decide +kernel)) ggX6_set_X6_in
theorem dX6_set_0 : decode cX6_set 0 = .ok (.iload_n 1, 1) := by decide +kernel
theorem dX6_set_1 : decode cX6_set 1 = .ok (.i2l, 1) := by decide +kernel
theorem dX6_set_2 : decode cX6_set 2 = .ok (.lconst 0, 1) := by decide +kernel
theorem dX6_set_3 : decode cX6_set 3 = .ok (.aload_n 0, 1) := by decide +kernel
theorem dX6_set_4 : decode cX6_set 4 = .ok (.getfield 61, 3) := by decide +kernel
theorem dX6_set_7 : decode cX6_set 7 = .ok (.iconst 1, 1) := by decide +kernel
theorem dX6_set_8 : decode cX6_set 8 = .ok (.isub, 1) := by decide +kernel
theorem dX6_set_9 : decode cX6_set 9 = .ok (.i2l, 1) := by decide +kernel
theorem dX6_set_10 : decode cX6_set 10 = .ok (.invokestatic 57, 3) := by decide +kernel
theorem dX6_set_13 : decode cX6_set 13 = .ok (.ifCond .ne 7, 3) := by decide +kernel
theorem dX6_set_16 : decode cX6_set 16 = .ok (.sipush (-1001), 3) := by decide +kernel
theorem dX6_set_19 : decode cX6_set 19 = .ok (.ireturn, 1) := by decide +kernel
theorem dX6_set_20 : decode cX6_set 20 = .ok (.iload_n 2, 1) := by decide +kernel
theorem dX6_set_21 : decode cX6_set 21 = .ok (.i2l, 1) := by decide +kernel
theorem dX6_set_22 : decode cX6_set 22 = .ok (.lconst 1, 1) := by decide +kernel
theorem dX6_set_23 : decode cX6_set 23 = .ok (.ldc2_w 55, 3) := by decide +kernel
theorem dX6_set_26 : decode cX6_set 26 = .ok (.invokestatic 57, 3) := by decide +kernel
theorem dX6_set_29 : decode cX6_set 29 = .ok (.ifCond .ne 7, 3) := by decide +kernel
theorem dX6_set_32 : decode cX6_set 32 = .ok (.sipush (-1002), 3) := by decide +kernel
theorem dX6_set_35 : decode cX6_set 35 = .ok (.ireturn, 1) := by decide +kernel
theorem dX6_set_36 : decode cX6_set 36 = .ok (.aload_n 0, 1) := by decide +kernel
theorem dX6_set_37 : decode cX6_set 37 = .ok (.getfield 7, 3) := by decide +kernel
theorem dX6_set_40 : decode cX6_set 40 = .ok (.iload_n 1, 1) := by decide +kernel
theorem dX6_set_41 : decode cX6_set 41 = .ok (.iaload, 1) := by decide +kernel
theorem dX6_set_42 : decode cX6_set 42 = .ok (.istore_n 3, 1) := by decide +kernel
theorem dX6_set_43 : decode cX6_set 43 = .ok (.aload_n 0, 1) := by decide +kernel
theorem dX6_set_44 : decode cX6_set 44 = .ok (.getfield 7, 3) := by decide +kernel
theorem dX6_set_47 : decode cX6_set 47 = .ok (.iload_n 1, 1) := by decide +kernel
theorem dX6_set_48 : decode cX6_set 48 = .ok (.iload_n 2, 1) := by decide +kernel
theorem dX6_set_49 : decode cX6_set 49 = .ok (.iastore, 1) := by decide +kernel
theorem dX6_set_50 : decode cX6_set 50 = .ok (.aload_n 0, 1) := by decide +kernel
theorem dX6_set_51 : decode cX6_set 51 = .ok (.iconst 0, 1) := by decide +kernel
theorem dX6_set_52 : decode cX6_set 52 = .ok (.putfield 64, 3) := by decide +kernel
theorem dX6_set_55 : decode cX6_set 55 = .ok (.iload_n 3, 1) := by decide +kernel
theorem dX6_set_56 : decode cX6_set 56 = .ok (.ireturn, 1) := by decide +kernel
set_option maxRecDepth 20000 in
theorem ggX6_cut_X6_in : GoodIn wsX6_cut wsX6_in := goodIn_r _ [6] (by decide +kernel) (by decide +kernel)
set_option maxRecDepth 20000 in
theorem gX6_cut_X6_in : GoodIn wsX6_cut (va_wsS RX6 57 yX6_in wsX6_in) := goodIn_app (goodIn_of _ (by decide +kernel)) ggX6_cut_X6_in
theorem dX6_cut_0 : decode cX6_cut 0 = .ok (.iload_n 1, 1) := by decide +kernel
theorem dX6_cut_1 : decode cX6_cut 1 = .ok (.i2l, 1) := by decide +kernel
theorem dX6_cut_2 : decode cX6_cut 2 = .ok (.lconst 0, 1) := by decide +kernel
theorem dX6_cut_3 : decode cX6_cut 3 = .ok (.aload_n 0, 1) := by decide +kernel
theorem dX6_cut_4 : decode cX6_cut 4 = .ok (.getfield 61, 3) := by decide +kernel
theorem dX6_cut_7 : decode cX6_cut 7 = .ok (.i2l, 1) := by decide +kernel
theorem dX6_cut_8 : decode cX6_cut 8 = .ok (.invokestatic 57, 3) := by decide +kernel
theorem dX6_cut_11 : decode cX6_cut 11 = .ok (.ifCond .ne 7, 3) := by decide +kernel
theorem dX6_cut_14 : decode cX6_cut 14 = .ok (.sipush (-1002), 3) := by decide +kernel
theorem dX6_cut_17 : decode cX6_cut 17 = .ok (.ireturn, 1) := by decide +kernel
theorem dX6_cut_18 : decode cX6_cut 18 = .ok (.aload_n 0, 1) := by decide +kernel
theorem dX6_cut_19 : decode cX6_cut 19 = .ok (.getfield 61, 3) := by decide +kernel
theorem dX6_cut_22 : decode cX6_cut 22 = .ok (.iload_n 1, 1) := by decide +kernel
theorem dX6_cut_23 : decode cX6_cut 23 = .ok (.isub, 1) := by decide +kernel
theorem dX6_cut_24 : decode cX6_cut 24 = .ok (.istore_n 2, 1) := by decide +kernel
theorem dX6_cut_25 : decode cX6_cut 25 = .ok (.aload_n 0, 1) := by decide +kernel
theorem dX6_cut_26 : decode cX6_cut 26 = .ok (.iload_n 1, 1) := by decide +kernel
theorem dX6_cut_27 : decode cX6_cut 27 = .ok (.putfield 61, 3) := by decide +kernel
theorem dX6_cut_30 : decode cX6_cut 30 = .ok (.aload_n 0, 1) := by decide +kernel
theorem dX6_cut_31 : decode cX6_cut 31 = .ok (.iconst 0, 1) := by decide +kernel
theorem dX6_cut_32 : decode cX6_cut 32 = .ok (.putfield 64, 3) := by decide +kernel
theorem dX6_cut_35 : decode cX6_cut 35 = .ok (.iload_n 2, 1) := by decide +kernel
theorem dX6_cut_36 : decode cX6_cut 36 = .ok (.ireturn, 1) := by decide +kernel
set_option maxRecDepth 20000 in
theorem ggX6_rule_X6_in : GoodIn wsX6_rule wsX6_in := goodIn_r _ [9] (by decide +kernel) (by decide +kernel)
set_option maxRecDepth 20000 in
theorem gX6_rule_X6_in : GoodIn wsX6_rule (va_wsS RX6 57 yX6_in wsX6_in) := goodIn_app (goodIn_of _ (by decide +kernel)) ggX6_rule_X6_in
theorem dX6_rule_0 : decode cX6_rule 0 = .ok (.iload_n 1, 1) := by decide +kernel
theorem dX6_rule_1 : decode cX6_rule 1 = .ok (.i2l, 1) := by decide +kernel
theorem dX6_rule_2 : decode cX6_rule 2 = .ok (.lconst 0, 1) := by decide +kernel
theorem dX6_rule_3 : decode cX6_rule 3 = .ok (.lconst 1, 1) := by decide +kernel
theorem dX6_rule_4 : decode cX6_rule 4 = .ok (.invokestatic 57, 3) := by decide +kernel
theorem dX6_rule_7 : decode cX6_rule 7 = .ok (.ifCond .eq 26, 3) := by decide +kernel
theorem dX6_rule_10 : decode cX6_rule 10 = .ok (.iload_n 2, 1) := by decide +kernel
theorem dX6_rule_11 : decode cX6_rule 11 = .ok (.i2l, 1) := by decide +kernel
theorem dX6_rule_12 : decode cX6_rule 12 = .ok (.iload_n 1, 1) := by decide +kernel
theorem dX6_rule_13 : decode cX6_rule 13 = .ok (.i2l, 1) := by decide +kernel
theorem dX6_rule_14 : decode cX6_rule 14 = .ok (.iload_n 1, 1) := by decide +kernel
theorem dX6_rule_15 : decode cX6_rule 15 = .ok (.ifCond .ne 9, 3) := by decide +kernel
theorem dX6_rule_18 : decode cX6_rule 18 = .ok (.ldc2_w 68, 3) := by decide +kernel
theorem dX6_rule_21 : decode cX6_rule 21 = .ok (.goto 6, 3) := by decide +kernel
theorem dX6_rule_24 : decode cX6_rule 24 = .ok (.ldc2_w 70, 3) := by decide +kernel
theorem dX6_rule_27 : decode cX6_rule 27 = .ok (.invokestatic 57, 3) := by decide +kernel
theorem dX6_rule_30 : decode cX6_rule 30 = .ok (.ifCond .ne 7, 3) := by decide +kernel
theorem dX6_rule_33 : decode cX6_rule 33 = .ok (.sipush (-1002), 3) := by decide +kernel
theorem dX6_rule_36 : decode cX6_rule 36 = .ok (.ireturn, 1) := by decide +kernel
theorem dX6_rule_37 : decode cX6_rule 37 = .ok (.iload_n 1, 1) := by decide +kernel
theorem dX6_rule_38 : decode cX6_rule 38 = .ok (.ifCond .ne 10, 3) := by decide +kernel
theorem dX6_rule_41 : decode cX6_rule 41 = .ok (.aload_n 0, 1) := by decide +kernel
theorem dX6_rule_42 : decode cX6_rule 42 = .ok (.getfield 13, 3) := by decide +kernel
theorem dX6_rule_45 : decode cX6_rule 45 = .ok (.goto 7, 3) := by decide +kernel
theorem dX6_rule_48 : decode cX6_rule 48 = .ok (.aload_n 0, 1) := by decide +kernel
theorem dX6_rule_49 : decode cX6_rule 49 = .ok (.getfield 17, 3) := by decide +kernel
theorem dX6_rule_52 : decode cX6_rule 52 = .ok (.istore_n 3, 1) := by decide +kernel
theorem dX6_rule_53 : decode cX6_rule 53 = .ok (.aload_n 0, 1) := by decide +kernel
theorem dX6_rule_54 : decode cX6_rule 54 = .ok (.iload_n 1, 1) := by decide +kernel
theorem dX6_rule_55 : decode cX6_rule 55 = .ok (.ifCond .ne 7, 3) := by decide +kernel
theorem dX6_rule_58 : decode cX6_rule 58 = .ok (.iload_n 2, 1) := by decide +kernel
theorem dX6_rule_59 : decode cX6_rule 59 = .ok (.goto 7, 3) := by decide +kernel
theorem dX6_rule_62 : decode cX6_rule 62 = .ok (.aload_n 0, 1) := by decide +kernel
theorem dX6_rule_63 : decode cX6_rule 63 = .ok (.getfield 13, 3) := by decide +kernel
theorem dX6_rule_66 : decode cX6_rule 66 = .ok (.putfield 13, 3) := by decide +kernel
theorem dX6_rule_69 : decode cX6_rule 69 = .ok (.aload_n 0, 1) := by decide +kernel
theorem dX6_rule_70 : decode cX6_rule 70 = .ok (.iload_n 1, 1) := by decide +kernel
theorem dX6_rule_71 : decode cX6_rule 71 = .ok (.iconst 1, 1) := by decide +kernel
theorem dX6_rule_72 : decode cX6_rule 72 = .ok (.if_icmp .ne 7, 3) := by decide +kernel
theorem dX6_rule_75 : decode cX6_rule 75 = .ok (.iload_n 2, 1) := by decide +kernel
theorem dX6_rule_76 : decode cX6_rule 76 = .ok (.goto 7, 3) := by decide +kernel
theorem dX6_rule_79 : decode cX6_rule 79 = .ok (.aload_n 0, 1) := by decide +kernel
theorem dX6_rule_80 : decode cX6_rule 80 = .ok (.getfield 17, 3) := by decide +kernel
theorem dX6_rule_83 : decode cX6_rule 83 = .ok (.putfield 17, 3) := by decide +kernel
theorem dX6_rule_86 : decode cX6_rule 86 = .ok (.aload_n 0, 1) := by decide +kernel
theorem dX6_rule_87 : decode cX6_rule 87 = .ok (.iconst 0, 1) := by decide +kernel
theorem dX6_rule_88 : decode cX6_rule 88 = .ok (.putfield 64, 3) := by decide +kernel
theorem dX6_rule_91 : decode cX6_rule 91 = .ok (.iload_n 3, 1) := by decide +kernel
theorem dX6_rule_92 : decode cX6_rule 92 = .ok (.ireturn, 1) := by decide +kernel
set_option maxRecDepth 20000 in
theorem ggX6_told_X6_in : GoodIn wsX6_told wsX6_in := goodIn_r _ [15] (by decide +kernel) (by decide +kernel)
set_option maxRecDepth 20000 in
theorem gX6_told_X6_in : GoodIn wsX6_told (va_wsS RX6 57 yX6_in wsX6_in) := goodIn_app (goodIn_of _ (by decide +kernel)) ggX6_told_X6_in
theorem dX6_told_0 : decode cX6_told 0 = .ok (.iload_n 1, 1) := by decide +kernel
theorem dX6_told_1 : decode cX6_told 1 = .ok (.i2l, 1) := by decide +kernel
theorem dX6_told_2 : decode cX6_told 2 = .ok (.ldc2_w 72, 3) := by decide +kernel
theorem dX6_told_5 : decode cX6_told 5 = .ok (.ldc2_w 68, 3) := by decide +kernel
theorem dX6_told_8 : decode cX6_told 8 = .ok (.invokestatic 57, 3) := by decide +kernel
theorem dX6_told_11 : decode cX6_told 11 = .ok (.ifCond .eq 28, 3) := by decide +kernel
theorem dX6_told_14 : decode cX6_told 14 = .ok (.iload_n 1, 1) := by decide +kernel
theorem dX6_told_15 : decode cX6_told 15 = .ok (.bipush 10, 2) := by decide +kernel
end
section
theorem dX6_told_17 : decode cX6_told 17 = .ok (.isub, 1) := by decide +kernel
theorem dX6_told_18 : decode cX6_told 18 = .ok (.aload_n 0, 1) := by decide +kernel
theorem dX6_told_19 : decode cX6_told 19 = .ok (.getfield 61, 3) := by decide +kernel
theorem dX6_told_22 : decode cX6_told 22 = .ok (.if_icmp .ge 15, 3) := by decide +kernel
theorem dX6_told_25 : decode cX6_told 25 = .ok (.aload_n 0, 1) := by decide +kernel
theorem dX6_told_26 : decode cX6_told 26 = .ok (.getfield 7, 3) := by decide +kernel
theorem dX6_told_29 : decode cX6_told 29 = .ok (.iload_n 1, 1) := by decide +kernel
theorem dX6_told_30 : decode cX6_told 30 = .ok (.bipush 10, 2) := by decide +kernel
theorem dX6_told_32 : decode cX6_told 32 = .ok (.isub, 1) := by decide +kernel
theorem dX6_told_33 : decode cX6_told 33 = .ok (.iaload, 1) := by decide +kernel
theorem dX6_told_34 : decode cX6_told 34 = .ok (.goto 4, 3) := by decide +kernel
theorem dX6_told_37 : decode cX6_told 37 = .ok (.iconst (-1), 1) := by decide +kernel
theorem dX6_told_38 : decode cX6_told 38 = .ok (.ireturn, 1) := by decide +kernel
theorem dX6_told_39 : decode cX6_told 39 = .ok (.iload_n 1, 1) := by decide +kernel
theorem dX6_told_40 : decode cX6_told 40 = .ok (.i2l, 1) := by decide +kernel
theorem dX6_told_41 : decode cX6_told 41 = .ok (.ldc2_w 74, 3) := by decide +kernel
theorem dX6_told_44 : decode cX6_told 44 = .ok (.ldc2_w 76, 3) := by decide +kernel
theorem dX6_told_47 : decode cX6_told 47 = .ok (.invokestatic 57, 3) := by decide +kernel
theorem dX6_told_50 : decode cX6_told 50 = .ok (.ifCond .eq 28, 3) := by decide +kernel
theorem dX6_told_53 : decode cX6_told 53 = .ok (.iload_n 1, 1) := by decide +kernel
theorem dX6_told_54 : decode cX6_told 54 = .ok (.bipush 20, 2) := by decide +kernel
theorem dX6_told_56 : decode cX6_told 56 = .ok (.isub, 1) := by decide +kernel
theorem dX6_told_57 : decode cX6_told 57 = .ok (.aload_n 0, 1) := by decide +kernel
theorem dX6_told_58 : decode cX6_told 58 = .ok (.getfield 78, 3) := by decide +kernel
theorem dX6_told_61 : decode cX6_told 61 = .ok (.if_icmp .ge 15, 3) := by decide +kernel
theorem dX6_told_64 : decode cX6_told 64 = .ok (.aload_n 0, 1) := by decide +kernel
theorem dX6_told_65 : decode cX6_told 65 = .ok (.getfield 20, 3) := by decide +kernel
theorem dX6_told_68 : decode cX6_told 68 = .ok (.iload_n 1, 1) := by decide +kernel
theorem dX6_told_69 : decode cX6_told 69 = .ok (.bipush 20, 2) := by decide +kernel
theorem dX6_told_71 : decode cX6_told 71 = .ok (.isub, 1) := by decide +kernel
theorem dX6_told_72 : decode cX6_told 72 = .ok (.iaload, 1) := by decide +kernel
theorem dX6_told_73 : decode cX6_told 73 = .ok (.goto 4, 3) := by decide +kernel
theorem dX6_told_76 : decode cX6_told 76 = .ok (.iconst (-1), 1) := by decide +kernel
theorem dX6_told_77 : decode cX6_told 77 = .ok (.ireturn, 1) := by decide +kernel
theorem dX6_told_78 : decode cX6_told 78 = .ok (.iload_n 1, 1) := by decide +kernel
theorem dX6_told_79 : decode cX6_told 79 = .ok (.tableswitch 58 0 4 #[33, 38, 43, 48, 53], 33) := by decide +kernel
theorem dX6_told_112 : decode cX6_told 112 = .ok (.aload_n 0, 1) := by decide +kernel
theorem dX6_told_113 : decode cX6_told 113 = .ok (.getfield 61, 3) := by decide +kernel
theorem dX6_told_116 : decode cX6_told 116 = .ok (.ireturn, 1) := by decide +kernel
theorem dX6_told_117 : decode cX6_told 117 = .ok (.aload_n 0, 1) := by decide +kernel
theorem dX6_told_118 : decode cX6_told 118 = .ok (.getfield 13, 3) := by decide +kernel
theorem dX6_told_121 : decode cX6_told 121 = .ok (.ireturn, 1) := by decide +kernel
theorem dX6_told_122 : decode cX6_told 122 = .ok (.aload_n 0, 1) := by decide +kernel
theorem dX6_told_123 : decode cX6_told 123 = .ok (.getfield 17, 3) := by decide +kernel
theorem dX6_told_126 : decode cX6_told 126 = .ok (.ireturn, 1) := by decide +kernel
theorem dX6_told_127 : decode cX6_told 127 = .ok (.aload_n 0, 1) := by decide +kernel
theorem dX6_told_128 : decode cX6_told 128 = .ok (.getfield 78, 3) := by decide +kernel
theorem dX6_told_131 : decode cX6_told 131 = .ok (.ireturn, 1) := by decide +kernel
theorem dX6_told_132 : decode cX6_told 132 = .ok (.aload_n 0, 1) := by decide +kernel
theorem dX6_told_133 : decode cX6_told 133 = .ok (.getfield 81, 3) := by decide +kernel
theorem dX6_told_136 : decode cX6_told 136 = .ok (.ireturn, 1) := by decide +kernel
theorem dX6_told_137 : decode cX6_told 137 = .ok (.sipush (-1002), 3) := by decide +kernel
theorem dX6_told_140 : decode cX6_told 140 = .ok (.ireturn, 1) := by decide +kernel
theorem dX6_may_0 : decode cX6_may 0 = .ok (.aload_n 0, 1) := by decide +kernel
theorem dX6_may_1 : decode cX6_may 1 = .ok (.getfield 13, 3) := by decide +kernel
theorem dX6_may_4 : decode cX6_may 4 = .ok (.iload_n 1, 1) := by decide +kernel
theorem dX6_may_5 : decode cX6_may 5 = .ok (.ishr, 1) := by decide +kernel
theorem dX6_may_6 : decode cX6_may 6 = .ok (.iconst 1, 1) := by decide +kernel
theorem dX6_may_7 : decode cX6_may 7 = .ok (.iand, 1) := by decide +kernel
theorem dX6_may_8 : decode cX6_may 8 = .ok (.iconst 1, 1) := by decide +kernel
theorem dX6_may_9 : decode cX6_may 9 = .ok (.if_icmp .ne 7, 3) := by decide +kernel
theorem dX6_may_12 : decode cX6_may 12 = .ok (.iconst 1, 1) := by decide +kernel
theorem dX6_may_13 : decode cX6_may 13 = .ok (.goto 4, 3) := by decide +kernel
theorem dX6_may_16 : decode cX6_may 16 = .ok (.iconst 0, 1) := by decide +kernel
theorem dX6_may_17 : decode cX6_may 17 = .ok (.ireturn, 1) := by decide +kernel
theorem dX6_listOf_0 : decode cX6_listOf 0 = .ok (.iconst 0, 1) := by decide +kernel
theorem dX6_listOf_1 : decode cX6_listOf 1 = .ok (.istore_n 3, 1) := by decide +kernel
theorem dX6_listOf_2 : decode cX6_listOf 2 = .ok (.iconst 1, 1) := by decide +kernel
theorem dX6_listOf_3 : decode cX6_listOf 3 = .ok (.istore 4, 2) := by decide +kernel
theorem dX6_listOf_5 : decode cX6_listOf 5 = .ok (.iload 4, 2) := by decide +kernel
theorem dX6_listOf_7 : decode cX6_listOf 7 = .ok (.sipush 3000, 3) := by decide +kernel
theorem dX6_listOf_10 : decode cX6_listOf 10 = .ok (.if_icmp .gt 35, 3) := by decide +kernel
theorem dX6_listOf_13 : decode cX6_listOf 13 = .ok (.aload_n 0, 1) := by decide +kernel
theorem dX6_listOf_14 : decode cX6_listOf 14 = .ok (.getfield 30, 3) := by decide +kernel
theorem dX6_listOf_17 : decode cX6_listOf 17 = .ok (.sipush 3001, 3) := by decide +kernel
theorem dX6_listOf_20 : decode cX6_listOf 20 = .ok (.iload_n 1, 1) := by decide +kernel
theorem dX6_listOf_21 : decode cX6_listOf 21 = .ok (.imul, 1) := by decide +kernel
theorem dX6_listOf_22 : decode cX6_listOf 22 = .ok (.iload 4, 2) := by decide +kernel
theorem dX6_listOf_24 : decode cX6_listOf 24 = .ok (.iadd, 1) := by decide +kernel
theorem dX6_listOf_25 : decode cX6_listOf 25 = .ok (.laload, 1) := by decide +kernel
theorem dX6_listOf_26 : decode cX6_listOf 26 = .ok (.lconst 0, 1) := by decide +kernel
theorem dX6_listOf_27 : decode cX6_listOf 27 = .ok (.lcmp, 1) := by decide +kernel
theorem dX6_listOf_28 : decode cX6_listOf 28 = .ok (.ifCond .le 11, 3) := by decide +kernel
theorem dX6_listOf_31 : decode cX6_listOf 31 = .ok (.aload_n 2, 1) := by decide +kernel
theorem dX6_listOf_32 : decode cX6_listOf 32 = .ok (.iload_n 3, 1) := by decide +kernel
theorem dX6_listOf_33 : decode cX6_listOf 33 = .ok (.iload 4, 2) := by decide +kernel
theorem dX6_listOf_35 : decode cX6_listOf 35 = .ok (.iastore, 1) := by decide +kernel
theorem dX6_listOf_36 : decode cX6_listOf 36 = .ok (.iinc 3 1, 3) := by decide +kernel
theorem dX6_listOf_39 : decode cX6_listOf 39 = .ok (.iinc 4 1, 3) := by decide +kernel
theorem dX6_listOf_42 : decode cX6_listOf 42 = .ok (.goto (-37), 3) := by decide +kernel
theorem dX6_listOf_45 : decode cX6_listOf 45 = .ok (.iload_n 3, 1) := by decide +kernel
theorem dX6_listOf_46 : decode cX6_listOf 46 = .ok (.ireturn, 1) := by decide +kernel
theorem dX6_add_0 : decode cX6_add 0 = .ok (.lload_n 2, 1) := by decide +kernel
theorem dX6_add_1 : decode cX6_add 1 = .ok (.aload_n 0, 1) := by decide +kernel
theorem dX6_add_2 : decode cX6_add 2 = .ok (.getfield 17, 3) := by decide +kernel
theorem dX6_add_5 : decode cX6_add 5 = .ok (.i2l, 1) := by decide +kernel
theorem dX6_add_6 : decode cX6_add 6 = .ok (.lcmp, 1) := by decide +kernel
theorem dX6_add_7 : decode cX6_add 7 = .ok (.ifCond .gt 21, 3) := by decide +kernel
theorem dX6_add_10 : decode cX6_add 10 = .ok (.aload_n 0, 1) := by decide +kernel
theorem dX6_add_11 : decode cX6_add 11 = .ok (.getfield 30, 3) := by decide +kernel
theorem dX6_add_14 : decode cX6_add 14 = .ok (.sipush 3001, 3) := by decide +kernel
theorem dX6_add_17 : decode cX6_add 17 = .ok (.iload_n 1, 1) := by decide +kernel
theorem dX6_add_18 : decode cX6_add 18 = .ok (.imul, 1) := by decide +kernel
theorem dX6_add_19 : decode cX6_add 19 = .ok (.lload_n 2, 1) := by decide +kernel
theorem dX6_add_20 : decode cX6_add 20 = .ok (.l2i, 1) := by decide +kernel
theorem dX6_add_21 : decode cX6_add 21 = .ok (.iadd, 1) := by decide +kernel
theorem dX6_add_22 : decode cX6_add 22 = .ok (.dup2, 1) := by decide +kernel
theorem dX6_add_23 : decode cX6_add 23 = .ok (.laload, 1) := by decide +kernel
theorem dX6_add_24 : decode cX6_add 24 = .ok (.lload 4, 2) := by decide +kernel
theorem dX6_add_26 : decode cX6_add 26 = .ok (.ladd, 1) := by decide +kernel
theorem dX6_add_27 : decode cX6_add 27 = .ok (.lastore, 1) := by decide +kernel
theorem dX6_add_28 : decode cX6_add 28 = .ok (.return_, 1) := by decide +kernel
set_option maxRecDepth 20000 in
theorem ggX6_join_X6_listOf : GoodIn wsX6_join wsX6_listOf := goodIn_r _ [8, 3, 19, 20, 21, 22, 23, 24, 25, 26, 27, 28, 29, 30, 31, 32, 33, 34, 35, 36, 37, 38] (by decide +kernel) (by decide +kernel)
set_option maxRecDepth 20000 in
theorem gX6_join_X6_listOf : GoodIn wsX6_join (wsV RX6 84 RX6 yX6_listOf wsX6_listOf) := goodIn_app (goodIn_of _ (by decide +kernel)) ggX6_join_X6_listOf
set_option maxRecDepth 20000 in
theorem ggX6_join_X6_may : GoodIn wsX6_join wsX6_may := goodIn_r _ [12, 13, 19, 20, 21, 22, 23, 24, 25, 26, 27, 28, 29, 30, 31, 32, 33, 34, 35, 36, 37, 38] (by decide +kernel) (by decide +kernel)
set_option maxRecDepth 20000 in
theorem gX6_join_X6_may : GoodIn wsX6_join (wsV RX6 88 RX6 yX6_may wsX6_may) := goodIn_app (goodIn_of _ (by decide +kernel)) ggX6_join_X6_may
set_option maxRecDepth 20000 in
theorem ggX6_join_X6_add : GoodIn wsX6_join wsX6_add := goodIn_r _ [17, 18, 3, 19, 20, 21, 22, 23, 24, 25, 26, 27, 28, 29, 30, 31, 32, 33, 34, 35, 36, 37, 38] (by decide +kernel) (by decide +kernel)
set_option maxRecDepth 20000 in
theorem gX6_join_X6_add : GoodIn wsX6_join (wsV RX6 92 RX6 yX6_add wsX6_add) := goodIn_app (goodIn_of _ (by decide +kernel)) ggX6_join_X6_add
theorem dX6_join_0 : decode cX6_join 0 = .ok (.iload_n 1, 1) := by decide +kernel
theorem dX6_join_1 : decode cX6_join 1 = .ok (.iload_n 2, 1) := by decide +kernel
theorem dX6_join_2 : decode cX6_join 2 = .ok (.iconst (-1), 1) := by decide +kernel
theorem dX6_join_3 : decode cX6_join 3 = .ok (.ixor, 1) := by decide +kernel
theorem dX6_join_4 : decode cX6_join 4 = .ok (.iand, 1) := by decide +kernel
theorem dX6_join_5 : decode cX6_join 5 = .ok (.istore_n 3, 1) := by decide +kernel
theorem dX6_join_6 : decode cX6_join 6 = .ok (.iload_n 2, 1) := by decide +kernel
theorem dX6_join_7 : decode cX6_join 7 = .ok (.iload_n 1, 1) := by decide +kernel
theorem dX6_join_8 : decode cX6_join 8 = .ok (.iand, 1) := by decide +kernel
theorem dX6_join_9 : decode cX6_join 9 = .ok (.iload_n 1, 1) := by decide +kernel
theorem dX6_join_10 : decode cX6_join 10 = .ok (.ineg, 1) := by decide +kernel
theorem dX6_join_11 : decode cX6_join 11 = .ok (.iand, 1) := by decide +kernel
theorem dX6_join_12 : decode cX6_join 12 = .ok (.ifCond .eq 7, 3) := by decide +kernel
theorem dX6_join_15 : decode cX6_join 15 = .ok (.iconst 1, 1) := by decide +kernel
theorem dX6_join_16 : decode cX6_join 16 = .ok (.goto 4, 3) := by decide +kernel
theorem dX6_join_19 : decode cX6_join 19 = .ok (.iconst 0, 1) := by decide +kernel
theorem dX6_join_20 : decode cX6_join 20 = .ok (.istore 4, 2) := by decide +kernel
theorem dX6_join_22 : decode cX6_join 22 = .ok (.aload_n 0, 1) := by decide +kernel
theorem dX6_join_23 : decode cX6_join 23 = .ok (.iload_n 2, 1) := by decide +kernel
theorem dX6_join_24 : decode cX6_join 24 = .ok (.aload_n 0, 1) := by decide +kernel
theorem dX6_join_25 : decode cX6_join 25 = .ok (.getfield 34, 3) := by decide +kernel
theorem dX6_join_28 : decode cX6_join 28 = .ok (.invokevirtual 84, 3) := by decide +kernel
theorem dX6_join_31 : decode cX6_join 31 = .ok (.istore 5, 2) := by decide +kernel
theorem dX6_join_33 : decode cX6_join 33 = .ok (.aload_n 0, 1) := by decide +kernel
theorem dX6_join_34 : decode cX6_join 34 = .ok (.iload_n 3, 1) := by decide +kernel
theorem dX6_join_35 : decode cX6_join 35 = .ok (.aload_n 0, 1) := by decide +kernel
theorem dX6_join_36 : decode cX6_join 36 = .ok (.getfield 37, 3) := by decide +kernel
theorem dX6_join_39 : decode cX6_join 39 = .ok (.invokevirtual 84, 3) := by decide +kernel
theorem dX6_join_42 : decode cX6_join 42 = .ok (.istore 6, 2) := by decide +kernel
theorem dX6_join_44 : decode cX6_join 44 = .ok (.iconst 0, 1) := by decide +kernel
theorem dX6_join_45 : decode cX6_join 45 = .ok (.istore 7, 2) := by decide +kernel
theorem dX6_join_47 : decode cX6_join 47 = .ok (.iload 7, 2) := by decide +kernel
theorem dX6_join_49 : decode cX6_join 49 = .ok (.iload 5, 2) := by decide +kernel
theorem dX6_join_51 : decode cX6_join 51 = .ok (.if_icmp .ge 182, 3) := by decide +kernel
theorem dX6_join_54 : decode cX6_join 54 = .ok (.iconst 0, 1) := by decide +kernel
theorem dX6_join_55 : decode cX6_join 55 = .ok (.istore 8, 2) := by decide +kernel
theorem dX6_join_57 : decode cX6_join 57 = .ok (.iload 8, 2) := by decide +kernel
theorem dX6_join_59 : decode cX6_join 59 = .ok (.iload 6, 2) := by decide +kernel
theorem dX6_join_61 : decode cX6_join 61 = .ok (.if_icmp .ge 166, 3) := by decide +kernel
theorem dX6_join_64 : decode cX6_join 64 = .ok (.aload_n 0, 1) := by decide +kernel
theorem dX6_join_65 : decode cX6_join 65 = .ok (.getfield 34, 3) := by decide +kernel
theorem dX6_join_68 : decode cX6_join 68 = .ok (.iload 7, 2) := by decide +kernel
theorem dX6_join_70 : decode cX6_join 70 = .ok (.iaload, 1) := by decide +kernel
theorem dX6_join_71 : decode cX6_join 71 = .ok (.istore 9, 2) := by decide +kernel
theorem dX6_join_73 : decode cX6_join 73 = .ok (.aload_n 0, 1) := by decide +kernel
theorem dX6_join_74 : decode cX6_join 74 = .ok (.getfield 37, 3) := by decide +kernel
theorem dX6_join_77 : decode cX6_join 77 = .ok (.iload 8, 2) := by decide +kernel
theorem dX6_join_79 : decode cX6_join 79 = .ok (.iaload, 1) := by decide +kernel
theorem dX6_join_80 : decode cX6_join 80 = .ok (.istore 10, 2) := by decide +kernel
theorem dX6_join_82 : decode cX6_join 82 = .ok (.aload_n 0, 1) := by decide +kernel
theorem dX6_join_83 : decode cX6_join 83 = .ok (.getfield 30, 3) := by decide +kernel
theorem dX6_join_86 : decode cX6_join 86 = .ok (.sipush 3001, 3) := by decide +kernel
theorem dX6_join_89 : decode cX6_join 89 = .ok (.iload_n 2, 1) := by decide +kernel
theorem dX6_join_90 : decode cX6_join 90 = .ok (.imul, 1) := by decide +kernel
theorem dX6_join_91 : decode cX6_join 91 = .ok (.iload 9, 2) := by decide +kernel
theorem dX6_join_93 : decode cX6_join 93 = .ok (.iadd, 1) := by decide +kernel
theorem dX6_join_94 : decode cX6_join 94 = .ok (.laload, 1) := by decide +kernel
theorem dX6_join_95 : decode cX6_join 95 = .ok (.aload_n 0, 1) := by decide +kernel
theorem dX6_join_96 : decode cX6_join 96 = .ok (.getfield 30, 3) := by decide +kernel
theorem dX6_join_99 : decode cX6_join 99 = .ok (.sipush 3001, 3) := by decide +kernel
theorem dX6_join_102 : decode cX6_join 102 = .ok (.iload_n 3, 1) := by decide +kernel
theorem dX6_join_103 : decode cX6_join 103 = .ok (.imul, 1) := by decide +kernel
theorem dX6_join_104 : decode cX6_join 104 = .ok (.iload 10, 2) := by decide +kernel
theorem dX6_join_106 : decode cX6_join 106 = .ok (.iadd, 1) := by decide +kernel
theorem dX6_join_107 : decode cX6_join 107 = .ok (.laload, 1) := by decide +kernel
theorem dX6_join_108 : decode cX6_join 108 = .ok (.lmul, 1) := by decide +kernel
theorem dX6_join_109 : decode cX6_join 109 = .ok (.lstore 11, 2) := by decide +kernel
theorem dX6_join_111 : decode cX6_join 111 = .ok (.iload 4, 2) := by decide +kernel
theorem dX6_join_113 : decode cX6_join 113 = .ok (.ifCond .eq 24, 3) := by decide +kernel
theorem dX6_join_116 : decode cX6_join 116 = .ok (.aload_n 0, 1) := by decide +kernel
theorem dX6_join_117 : decode cX6_join 117 = .ok (.iconst 0, 1) := by decide +kernel
theorem dX6_join_118 : decode cX6_join 118 = .ok (.invokevirtual 88, 3) := by decide +kernel
theorem dX6_join_121 : decode cX6_join 121 = .ok (.ifCond .eq 16, 3) := by decide +kernel
theorem dX6_join_124 : decode cX6_join 124 = .ok (.aload_n 0, 1) := by decide +kernel
theorem dX6_join_125 : decode cX6_join 125 = .ok (.iload_n 1, 1) := by decide +kernel
theorem dX6_join_126 : decode cX6_join 126 = .ok (.iload 9, 2) := by decide +kernel
theorem dX6_join_128 : decode cX6_join 128 = .ok (.iload 10, 2) := by decide +kernel
theorem dX6_join_130 : decode cX6_join 130 = .ok (.iadd, 1) := by decide +kernel
theorem dX6_join_131 : decode cX6_join 131 = .ok (.i2l, 1) := by decide +kernel
theorem dX6_join_132 : decode cX6_join 132 = .ok (.lload 11, 2) := by decide +kernel
theorem dX6_join_134 : decode cX6_join 134 = .ok (.invokevirtual 92, 3) := by decide +kernel
theorem dX6_join_137 : decode cX6_join 137 = .ok (.aload_n 0, 1) := by decide +kernel
theorem dX6_join_138 : decode cX6_join 138 = .ok (.iconst 1, 1) := by decide +kernel
theorem dX6_join_139 : decode cX6_join 139 = .ok (.invokevirtual 88, 3) := by decide +kernel
theorem dX6_join_142 : decode cX6_join 142 = .ok (.ifCond .eq 23, 3) := by decide +kernel
theorem dX6_join_145 : decode cX6_join 145 = .ok (.iload 9, 2) := by decide +kernel
theorem dX6_join_147 : decode cX6_join 147 = .ok (.iload 10, 2) := by decide +kernel
theorem dX6_join_149 : decode cX6_join 149 = .ok (.if_icmp .le 16, 3) := by decide +kernel
theorem dX6_join_152 : decode cX6_join 152 = .ok (.aload_n 0, 1) := by decide +kernel
theorem dX6_join_153 : decode cX6_join 153 = .ok (.iload_n 1, 1) := by decide +kernel
theorem dX6_join_154 : decode cX6_join 154 = .ok (.iload 9, 2) := by decide +kernel
theorem dX6_join_156 : decode cX6_join 156 = .ok (.iload 10, 2) := by decide +kernel
theorem dX6_join_158 : decode cX6_join 158 = .ok (.isub, 1) := by decide +kernel
theorem dX6_join_159 : decode cX6_join 159 = .ok (.i2l, 1) := by decide +kernel
theorem dX6_join_160 : decode cX6_join 160 = .ok (.lload 11, 2) := by decide +kernel
theorem dX6_join_162 : decode cX6_join 162 = .ok (.invokevirtual 92, 3) := by decide +kernel
theorem dX6_join_165 : decode cX6_join 165 = .ok (.iload 4, 2) := by decide +kernel
theorem dX6_join_167 : decode cX6_join 167 = .ok (.ifCond .eq 25, 3) := by decide +kernel
theorem dX6_join_170 : decode cX6_join 170 = .ok (.aload_n 0, 1) := by decide +kernel
theorem dX6_join_171 : decode cX6_join 171 = .ok (.iconst 2, 1) := by decide +kernel
theorem dX6_join_172 : decode cX6_join 172 = .ok (.invokevirtual 88, 3) := by decide +kernel
theorem dX6_join_175 : decode cX6_join 175 = .ok (.ifCond .eq 17, 3) := by decide +kernel
theorem dX6_join_178 : decode cX6_join 178 = .ok (.aload_n 0, 1) := by decide +kernel
theorem dX6_join_179 : decode cX6_join 179 = .ok (.iload_n 1, 1) := by decide +kernel
theorem dX6_join_180 : decode cX6_join 180 = .ok (.iload 9, 2) := by decide +kernel
theorem dX6_join_182 : decode cX6_join 182 = .ok (.i2l, 1) := by decide +kernel
theorem dX6_join_183 : decode cX6_join 183 = .ok (.iload 10, 2) := by decide +kernel
theorem dX6_join_185 : decode cX6_join 185 = .ok (.i2l, 1) := by decide +kernel
theorem dX6_join_186 : decode cX6_join 186 = .ok (.lmul, 1) := by decide +kernel
theorem dX6_join_187 : decode cX6_join 187 = .ok (.lload 11, 2) := by decide +kernel
theorem dX6_join_189 : decode cX6_join 189 = .ok (.invokevirtual 92, 3) := by decide +kernel
theorem dX6_join_192 : decode cX6_join 192 = .ok (.aload_n 0, 1) := by decide +kernel
theorem dX6_join_193 : decode cX6_join 193 = .ok (.iconst 3, 1) := by decide +kernel
theorem dX6_join_194 : decode cX6_join 194 = .ok (.invokevirtual 88, 3) := by decide +kernel
theorem dX6_join_197 : decode cX6_join 197 = .ok (.ifCond .eq 24, 3) := by decide +kernel
theorem dX6_join_200 : decode cX6_join 200 = .ok (.iload 9, 2) := by decide +kernel
theorem dX6_join_202 : decode cX6_join 202 = .ok (.iload 10, 2) := by decide +kernel
theorem dX6_join_204 : decode cX6_join 204 = .ok (.irem, 1) := by decide +kernel
theorem dX6_join_205 : decode cX6_join 205 = .ok (.ifCond .ne 16, 3) := by decide +kernel
theorem dX6_join_208 : decode cX6_join 208 = .ok (.aload_n 0, 1) := by decide +kernel
theorem dX6_join_209 : decode cX6_join 209 = .ok (.iload_n 1, 1) := by decide +kernel
theorem dX6_join_210 : decode cX6_join 210 = .ok (.iload 9, 2) := by decide +kernel
theorem dX6_join_212 : decode cX6_join 212 = .ok (.iload 10, 2) := by decide +kernel
theorem dX6_join_214 : decode cX6_join 214 = .ok (.idiv, 1) := by decide +kernel
theorem dX6_join_215 : decode cX6_join 215 = .ok (.i2l, 1) := by decide +kernel
theorem dX6_join_216 : decode cX6_join 216 = .ok (.lload 11, 2) := by decide +kernel
theorem dX6_join_218 : decode cX6_join 218 = .ok (.invokevirtual 92, 3) := by decide +kernel
theorem dX6_join_221 : decode cX6_join 221 = .ok (.iinc 8 1, 3) := by decide +kernel
theorem dX6_join_224 : decode cX6_join 224 = .ok (.goto (-167), 3) := by decide +kernel
theorem dX6_join_227 : decode cX6_join 227 = .ok (.iinc 7 1, 3) := by decide +kernel
theorem dX6_join_230 : decode cX6_join 230 = .ok (.goto (-183), 3) := by decide +kernel
theorem dX6_join_233 : decode cX6_join 233 = .ok (.return_, 1) := by decide +kernel
set_option maxRecDepth 20000 in
theorem ggX6_fill_X6_bits : GoodIn wsX6_fill wsX6_bits := goodIn_r _ [8] (by decide +kernel) (by decide +kernel)
set_option maxRecDepth 20000 in
theorem gX6_fill_X6_bits : GoodIn wsX6_fill (va_wsS RX6 99 yX6_bits wsX6_bits) := goodIn_app (goodIn_of _ (by decide +kernel)) ggX6_fill_X6_bits
set_option maxRecDepth 20000 in
theorem ggX6_fill_X6_join : GoodIn wsX6_fill wsX6_join := goodIn_r _ [12, 13, 14, 2, 15, 16, 17, 7, 18, 19, 20, 21, 22, 23, 24, 25, 26, 27, 28, 29, 30, 31, 32, 33, 34, 35, 36, 37, 38, 39, 40, 41, 42, 43, 44, 45, 46, 47, 48] (by decide +kernel) (by decide +kernel)
set_option maxRecDepth 20000 in
theorem gX6_fill_X6_join : GoodIn wsX6_fill (wsV RX6 103 RX6 yX6_join wsX6_join) := goodIn_app (goodIn_of _ (by decide +kernel)) ggX6_fill_X6_join
theorem dX6_fill_0 : decode cX6_fill 0 = .ok (.iconst 0, 1) := by decide +kernel
theorem dX6_fill_1 : decode cX6_fill 1 = .ok (.istore_n 1, 1) := by decide +kernel
theorem dX6_fill_2 : decode cX6_fill 2 = .ok (.iload_n 1, 1) := by decide +kernel
theorem dX6_fill_3 : decode cX6_fill 3 = .ok (.sipush 3001, 3) := by decide +kernel
theorem dX6_fill_6 : decode cX6_fill 6 = .ok (.aload_n 0, 1) := by decide +kernel
theorem dX6_fill_7 : decode cX6_fill 7 = .ok (.getfield 96, 3) := by decide +kernel
theorem dX6_fill_10 : decode cX6_fill 10 = .ok (.ishl, 1) := by decide +kernel
theorem dX6_fill_11 : decode cX6_fill 11 = .ok (.if_icmp .ge 16, 3) := by decide +kernel
theorem dX6_fill_14 : decode cX6_fill 14 = .ok (.aload_n 0, 1) := by decide +kernel
theorem dX6_fill_15 : decode cX6_fill 15 = .ok (.getfield 30, 3) := by decide +kernel
theorem dX6_fill_18 : decode cX6_fill 18 = .ok (.iload_n 1, 1) := by decide +kernel
theorem dX6_fill_19 : decode cX6_fill 19 = .ok (.lconst 0, 1) := by decide +kernel
theorem dX6_fill_20 : decode cX6_fill 20 = .ok (.lastore, 1) := by decide +kernel
theorem dX6_fill_21 : decode cX6_fill 21 = .ok (.iinc 1 1, 3) := by decide +kernel
theorem dX6_fill_24 : decode cX6_fill 24 = .ok (.goto (-22), 3) := by decide +kernel
theorem dX6_fill_27 : decode cX6_fill 27 = .ok (.iconst 1, 1) := by decide +kernel
theorem dX6_fill_28 : decode cX6_fill 28 = .ok (.istore_n 1, 1) := by decide +kernel
theorem dX6_fill_29 : decode cX6_fill 29 = .ok (.iload_n 1, 1) := by decide +kernel
theorem dX6_fill_30 : decode cX6_fill 30 = .ok (.iconst 1, 1) := by decide +kernel
theorem dX6_fill_31 : decode cX6_fill 31 = .ok (.aload_n 0, 1) := by decide +kernel
theorem dX6_fill_32 : decode cX6_fill 32 = .ok (.getfield 96, 3) := by decide +kernel
theorem dX6_fill_35 : decode cX6_fill 35 = .ok (.ishl, 1) := by decide +kernel
theorem dX6_fill_36 : decode cX6_fill 36 = .ok (.if_icmp .ge 81, 3) := by decide +kernel
theorem dX6_fill_39 : decode cX6_fill 39 = .ok (.iload_n 1, 1) := by decide +kernel
theorem dX6_fill_40 : decode cX6_fill 40 = .ok (.invokestatic 99, 3) := by decide +kernel
theorem dX6_fill_43 : decode cX6_fill 43 = .ok (.iconst 1, 1) := by decide +kernel
theorem dX6_fill_44 : decode cX6_fill 44 = .ok (.if_icmp .ne 40, 3) := by decide +kernel
theorem dX6_fill_47 : decode cX6_fill 47 = .ok (.iconst 0, 1) := by decide +kernel
theorem dX6_fill_48 : decode cX6_fill 48 = .ok (.istore_n 2, 1) := by decide +kernel
theorem dX6_fill_49 : decode cX6_fill 49 = .ok (.iload_n 1, 1) := by decide +kernel
theorem dX6_fill_50 : decode cX6_fill 50 = .ok (.iload_n 2, 1) := by decide +kernel
theorem dX6_fill_51 : decode cX6_fill 51 = .ok (.ishr, 1) := by decide +kernel
theorem dX6_fill_52 : decode cX6_fill 52 = .ok (.iconst 1, 1) := by decide +kernel
theorem dX6_fill_53 : decode cX6_fill 53 = .ok (.iand, 1) := by decide +kernel
theorem dX6_fill_54 : decode cX6_fill 54 = .ok (.ifCond .ne 9, 3) := by decide +kernel
theorem dX6_fill_57 : decode cX6_fill 57 = .ok (.iinc 2 1, 3) := by decide +kernel
theorem dX6_fill_60 : decode cX6_fill 60 = .ok (.goto (-11), 3) := by decide +kernel
theorem dX6_fill_63 : decode cX6_fill 63 = .ok (.aload_n 0, 1) := by decide +kernel
theorem dX6_fill_64 : decode cX6_fill 64 = .ok (.getfield 30, 3) := by decide +kernel
theorem dX6_fill_67 : decode cX6_fill 67 = .ok (.sipush 3001, 3) := by decide +kernel
theorem dX6_fill_70 : decode cX6_fill 70 = .ok (.iload_n 1, 1) := by decide +kernel
theorem dX6_fill_71 : decode cX6_fill 71 = .ok (.imul, 1) := by decide +kernel
theorem dX6_fill_72 : decode cX6_fill 72 = .ok (.aload_n 0, 1) := by decide +kernel
theorem dX6_fill_73 : decode cX6_fill 73 = .ok (.getfield 26, 3) := by decide +kernel
theorem dX6_fill_76 : decode cX6_fill 76 = .ok (.iload_n 2, 1) := by decide +kernel
theorem dX6_fill_77 : decode cX6_fill 77 = .ok (.iaload, 1) := by decide +kernel
theorem dX6_fill_78 : decode cX6_fill 78 = .ok (.iadd, 1) := by decide +kernel
theorem dX6_fill_79 : decode cX6_fill 79 = .ok (.lconst 1, 1) := by decide +kernel
theorem dX6_fill_80 : decode cX6_fill 80 = .ok (.lastore, 1) := by decide +kernel
theorem dX6_fill_81 : decode cX6_fill 81 = .ok (.goto 30, 3) := by decide +kernel
theorem dX6_fill_84 : decode cX6_fill 84 = .ok (.iconst 1, 1) := by decide +kernel
theorem dX6_fill_85 : decode cX6_fill 85 = .ok (.istore_n 2, 1) := by decide +kernel
theorem dX6_fill_86 : decode cX6_fill 86 = .ok (.iload_n 2, 1) := by decide +kernel
theorem dX6_fill_87 : decode cX6_fill 87 = .ok (.iload_n 1, 1) := by decide +kernel
theorem dX6_fill_88 : decode cX6_fill 88 = .ok (.if_icmp .ge 23, 3) := by decide +kernel
theorem dX6_fill_91 : decode cX6_fill 91 = .ok (.iload_n 2, 1) := by decide +kernel
theorem dX6_fill_92 : decode cX6_fill 92 = .ok (.iload_n 1, 1) := by decide +kernel
theorem dX6_fill_93 : decode cX6_fill 93 = .ok (.iconst (-1), 1) := by decide +kernel
theorem dX6_fill_94 : decode cX6_fill 94 = .ok (.ixor, 1) := by decide +kernel
theorem dX6_fill_95 : decode cX6_fill 95 = .ok (.iand, 1) := by decide +kernel
theorem dX6_fill_96 : decode cX6_fill 96 = .ok (.ifCond .ne 9, 3) := by decide +kernel
theorem dX6_fill_99 : decode cX6_fill 99 = .ok (.aload_n 0, 1) := by decide +kernel
theorem dX6_fill_100 : decode cX6_fill 100 = .ok (.iload_n 1, 1) := by decide +kernel
theorem dX6_fill_101 : decode cX6_fill 101 = .ok (.iload_n 2, 1) := by decide +kernel
theorem dX6_fill_102 : decode cX6_fill 102 = .ok (.invokevirtual 103, 3) := by decide +kernel
theorem dX6_fill_105 : decode cX6_fill 105 = .ok (.iinc 2 1, 3) := by decide +kernel
theorem dX6_fill_108 : decode cX6_fill 108 = .ok (.goto (-22), 3) := by decide +kernel
theorem dX6_fill_111 : decode cX6_fill 111 = .ok (.iinc 1 1, 3) := by decide +kernel
theorem dX6_fill_114 : decode cX6_fill 114 = .ok (.goto (-85), 3) := by decide +kernel
theorem dX6_fill_117 : decode cX6_fill 117 = .ok (.aload_n 0, 1) := by decide +kernel
theorem dX6_fill_118 : decode cX6_fill 118 = .ok (.iconst 0, 1) := by decide +kernel
theorem dX6_fill_119 : decode cX6_fill 119 = .ok (.putfield 64, 3) := by decide +kernel
theorem dX6_fill_122 : decode cX6_fill 122 = .ok (.return_, 1) := by decide +kernel
set_option maxRecDepth 20000 in
theorem ggX6_heap_X6_fill : GoodIn wsX6_heap wsX6_fill := goodIn_r _ [10, 3, 11, 4, 1, 12, 13, 9, 14, 15, 16, 17, 18, 19, 20, 21, 22, 23, 24, 25, 26, 27, 28, 29, 30, 31, 32, 33, 34, 35, 36, 37, 38, 39, 40, 41, 42, 43, 44, 45, 46, 47, 48, 49, 50, 51, 52, 53, 54] (by decide +kernel) (by decide +kernel)
set_option maxRecDepth 20000 in
theorem gX6_heap_X6_fill : GoodIn wsX6_heap (wsV RX6 107 RX6 yX6_fill wsX6_fill) := goodIn_app (goodIn_of _ (by decide +kernel)) ggX6_heap_X6_fill
theorem dX6_heap_0 : decode cX6_heap 0 = .ok (.aload_n 0, 1) := by decide +kernel
theorem dX6_heap_1 : decode cX6_heap 1 = .ok (.getfield 64, 3) := by decide +kernel
theorem dX6_heap_4 : decode cX6_heap 4 = .ok (.ifCond .ne 48, 3) := by decide +kernel
theorem dX6_heap_7 : decode cX6_heap 7 = .ok (.aload_n 0, 1) := by decide +kernel
theorem dX6_heap_8 : decode cX6_heap 8 = .ok (.aload_n 0, 1) := by decide +kernel
theorem dX6_heap_9 : decode cX6_heap 9 = .ok (.getfield 61, 3) := by decide +kernel
theorem dX6_heap_12 : decode cX6_heap 12 = .ok (.putfield 96, 3) := by decide +kernel
theorem dX6_heap_15 : decode cX6_heap 15 = .ok (.iconst 0, 1) := by decide +kernel
theorem dX6_heap_16 : decode cX6_heap 16 = .ok (.istore_n 1, 1) := by decide +kernel
theorem dX6_heap_17 : decode cX6_heap 17 = .ok (.iload_n 1, 1) := by decide +kernel
theorem dX6_heap_18 : decode cX6_heap 18 = .ok (.aload_n 0, 1) := by decide +kernel
theorem dX6_heap_19 : decode cX6_heap 19 = .ok (.getfield 61, 3) := by decide +kernel
theorem dX6_heap_22 : decode cX6_heap 22 = .ok (.if_icmp .ge 21, 3) := by decide +kernel
theorem dX6_heap_25 : decode cX6_heap 25 = .ok (.aload_n 0, 1) := by decide +kernel
theorem dX6_heap_26 : decode cX6_heap 26 = .ok (.getfield 26, 3) := by decide +kernel
theorem dX6_heap_29 : decode cX6_heap 29 = .ok (.iload_n 1, 1) := by decide +kernel
theorem dX6_heap_30 : decode cX6_heap 30 = .ok (.aload_n 0, 1) := by decide +kernel
theorem dX6_heap_31 : decode cX6_heap 31 = .ok (.getfield 7, 3) := by decide +kernel
theorem dX6_heap_34 : decode cX6_heap 34 = .ok (.iload_n 1, 1) := by decide +kernel
theorem dX6_heap_35 : decode cX6_heap 35 = .ok (.iaload, 1) := by decide +kernel
theorem dX6_heap_36 : decode cX6_heap 36 = .ok (.iastore, 1) := by decide +kernel
theorem dX6_heap_37 : decode cX6_heap 37 = .ok (.iinc 1 1, 3) := by decide +kernel
theorem dX6_heap_40 : decode cX6_heap 40 = .ok (.goto (-23), 3) := by decide +kernel
theorem dX6_heap_43 : decode cX6_heap 43 = .ok (.aload_n 0, 1) := by decide +kernel
theorem dX6_heap_44 : decode cX6_heap 44 = .ok (.invokevirtual 107, 3) := by decide +kernel
theorem dX6_heap_47 : decode cX6_heap 47 = .ok (.aload_n 0, 1) := by decide +kernel
theorem dX6_heap_48 : decode cX6_heap 48 = .ok (.iconst 1, 1) := by decide +kernel
theorem dX6_heap_49 : decode cX6_heap 49 = .ok (.putfield 64, 3) := by decide +kernel
theorem dX6_heap_52 : decode cX6_heap 52 = .ok (.return_, 1) := by decide +kernel
set_option maxRecDepth 20000 in
theorem ggX6_isSet_X6_in : GoodIn wsX6_isSet wsX6_in := goodIn_r _ [5] (by decide +kernel) (by decide +kernel)
set_option maxRecDepth 20000 in
theorem gX6_isSet_X6_in : GoodIn wsX6_isSet (va_wsS RX6 57 yX6_in wsX6_in) := goodIn_app (goodIn_of _ (by decide +kernel)) ggX6_isSet_X6_in
theorem dX6_isSet_0 : decode cX6_isSet 0 = .ok (.iload_n 1, 1) := by decide +kernel
theorem dX6_isSet_1 : decode cX6_isSet 1 = .ok (.i2l, 1) := by decide +kernel
theorem dX6_isSet_2 : decode cX6_isSet 2 = .ok (.lconst 1, 1) := by decide +kernel
theorem dX6_isSet_3 : decode cX6_isSet 3 = .ok (.iconst 1, 1) := by decide +kernel
theorem dX6_isSet_4 : decode cX6_isSet 4 = .ok (.aload_n 0, 1) := by decide +kernel
theorem dX6_isSet_5 : decode cX6_isSet 5 = .ok (.getfield 61, 3) := by decide +kernel
theorem dX6_isSet_8 : decode cX6_isSet 8 = .ok (.ishl, 1) := by decide +kernel
theorem dX6_isSet_9 : decode cX6_isSet 9 = .ok (.iconst 1, 1) := by decide +kernel
theorem dX6_isSet_10 : decode cX6_isSet 10 = .ok (.isub, 1) := by decide +kernel
theorem dX6_isSet_11 : decode cX6_isSet 11 = .ok (.i2l, 1) := by decide +kernel
theorem dX6_isSet_12 : decode cX6_isSet 12 = .ok (.invokestatic 57, 3) := by decide +kernel
theorem dX6_isSet_15 : decode cX6_isSet 15 = .ok (.ireturn, 1) := by decide +kernel
theorem dX6_allOf_0 : decode cX6_allOf 0 = .ok (.lconst 0, 1) := by decide +kernel
theorem dX6_allOf_1 : decode cX6_allOf 1 = .ok (.lstore_n 2, 1) := by decide +kernel
theorem dX6_allOf_2 : decode cX6_allOf 2 = .ok (.iconst 1, 1) := by decide +kernel
theorem dX6_allOf_3 : decode cX6_allOf 3 = .ok (.istore 4, 2) := by decide +kernel
theorem dX6_allOf_5 : decode cX6_allOf 5 = .ok (.iload 4, 2) := by decide +kernel
theorem dX6_allOf_7 : decode cX6_allOf 7 = .ok (.iconst 1, 1) := by decide +kernel
theorem dX6_allOf_8 : decode cX6_allOf 8 = .ok (.aload_n 0, 1) := by decide +kernel
theorem dX6_allOf_9 : decode cX6_allOf 9 = .ok (.getfield 96, 3) := by decide +kernel
theorem dX6_allOf_12 : decode cX6_allOf 12 = .ok (.ishl, 1) := by decide +kernel
theorem dX6_allOf_13 : decode cX6_allOf 13 = .ok (.if_icmp .ge 25, 3) := by decide +kernel
theorem dX6_allOf_16 : decode cX6_allOf 16 = .ok (.lload_n 2, 1) := by decide +kernel
theorem dX6_allOf_17 : decode cX6_allOf 17 = .ok (.aload_n 0, 1) := by decide +kernel
theorem dX6_allOf_18 : decode cX6_allOf 18 = .ok (.getfield 30, 3) := by decide +kernel
theorem dX6_allOf_21 : decode cX6_allOf 21 = .ok (.sipush 3001, 3) := by decide +kernel
theorem dX6_allOf_24 : decode cX6_allOf 24 = .ok (.iload 4, 2) := by decide +kernel
theorem dX6_allOf_26 : decode cX6_allOf 26 = .ok (.imul, 1) := by decide +kernel
theorem dX6_allOf_27 : decode cX6_allOf 27 = .ok (.iload_n 1, 1) := by decide +kernel
theorem dX6_allOf_28 : decode cX6_allOf 28 = .ok (.iadd, 1) := by decide +kernel
theorem dX6_allOf_29 : decode cX6_allOf 29 = .ok (.laload, 1) := by decide +kernel
theorem dX6_allOf_30 : decode cX6_allOf 30 = .ok (.ladd, 1) := by decide +kernel
theorem dX6_allOf_31 : decode cX6_allOf 31 = .ok (.lstore_n 2, 1) := by decide +kernel
theorem dX6_allOf_32 : decode cX6_allOf 32 = .ok (.iinc 4 1, 3) := by decide +kernel
theorem dX6_allOf_35 : decode cX6_allOf 35 = .ok (.goto (-30), 3) := by decide +kernel
theorem dX6_allOf_38 : decode cX6_allOf 38 = .ok (.lload_n 2, 1) := by decide +kernel
theorem dX6_allOf_39 : decode cX6_allOf 39 = .ok (.lreturn, 1) := by decide +kernel
set_option maxRecDepth 20000 in
theorem ggX6_isReached_X6_allOf : GoodIn wsX6_isReached wsX6_allOf := goodIn_r _ [5, 6, 7, 8, 9, 10, 11, 12, 13, 14, 15, 16, 17, 18, 19, 20, 21, 22, 23, 24, 25, 26, 27] (by decide +kernel) (by decide +kernel)
set_option maxRecDepth 20000 in
theorem gX6_isReached_X6_allOf : GoodIn wsX6_isReached (wsV RX6 110 RX6 yX6_allOf wsX6_allOf) := goodIn_app (goodIn_of _ (by decide +kernel)) ggX6_isReached_X6_allOf
theorem dX6_isReached_0 : decode cX6_isReached 0 = .ok (.aload_n 0, 1) := by decide +kernel
theorem dX6_isReached_1 : decode cX6_isReached 1 = .ok (.iload_n 1, 1) := by decide +kernel
theorem dX6_isReached_2 : decode cX6_isReached 2 = .ok (.invokevirtual 110, 3) := by decide +kernel
theorem dX6_isReached_5 : decode cX6_isReached 5 = .ok (.lconst 0, 1) := by decide +kernel
theorem dX6_isReached_6 : decode cX6_isReached 6 = .ok (.lcmp, 1) := by decide +kernel
theorem dX6_isReached_7 : decode cX6_isReached 7 = .ok (.ifCond .le 7, 3) := by decide +kernel
theorem dX6_isReached_10 : decode cX6_isReached 10 = .ok (.iconst 1, 1) := by decide +kernel
theorem dX6_isReached_11 : decode cX6_isReached 11 = .ok (.goto 4, 3) := by decide +kernel
theorem dX6_isReached_14 : decode cX6_isReached 14 = .ok (.iconst 0, 1) := by decide +kernel
theorem dX6_isReached_15 : decode cX6_isReached 15 = .ok (.ireturn, 1) := by decide +kernel
set_option maxRecDepth 20000 in
theorem ggX6_ways_X6_isSet : GoodIn wsX6_ways wsX6_isSet := goodIn_r _ [8, 9, 10, 11, 7, 12, 48, 49, 50, 51, 52, 53, 54, 55, 56, 57, 58, 59, 60, 61, 62, 63, 64, 65, 66, 67] (by decide +kernel) (by decide +kernel)
set_option maxRecDepth 20000 in
theorem gX6_ways_X6_isSet : GoodIn wsX6_ways (wsV RX6 114 RX6 yX6_isSet wsX6_isSet) := goodIn_app (goodIn_of _ (by decide +kernel)) ggX6_ways_X6_isSet
set_option maxRecDepth 20000 in
theorem ggX6_ways_X6_in : GoodIn wsX6_ways wsX6_in := goodIn_r _ [12] (by decide +kernel) (by decide +kernel)
set_option maxRecDepth 20000 in
theorem gX6_ways_X6_in : GoodIn wsX6_ways (va_wsS RX6 57 yX6_in wsX6_in) := goodIn_app (goodIn_of _ (by decide +kernel)) ggX6_ways_X6_in
set_option maxRecDepth 20000 in
theorem ggX6_ways_X6_heap : GoodIn wsX6_ways wsX6_heap := goodIn_r _ [16, 17, 9, 18, 19, 20, 21, 22, 23, 7, 24, 3, 25, 26, 27, 28, 29, 30, 31, 32, 33, 34, 35, 36, 37, 38, 39, 40, 41, 42, 43, 44, 45, 46, 47, 48, 49, 50, 51, 52, 53, 54, 55, 56, 57, 58, 59, 60, 61, 62, 63, 64, 65, 66, 67] (by decide +kernel) (by decide +kernel)
set_option maxRecDepth 20000 in
theorem gX6_ways_X6_heap : GoodIn wsX6_ways (wsV RX6 119 RX6 yX6_heap wsX6_heap) := goodIn_app (goodIn_of _ (by decide +kernel)) ggX6_ways_X6_heap
theorem dX6_ways_0 : decode cX6_ways 0 = .ok (.aload_n 0, 1) := by decide +kernel
theorem dX6_ways_1 : decode cX6_ways 1 = .ok (.iload_n 1, 1) := by decide +kernel
theorem dX6_ways_2 : decode cX6_ways 2 = .ok (.invokevirtual 114, 3) := by decide +kernel
theorem dX6_ways_5 : decode cX6_ways 5 = .ok (.ifCond .eq 15, 3) := by decide +kernel
theorem dX6_ways_8 : decode cX6_ways 8 = .ok (.iload_n 2, 1) := by decide +kernel
theorem dX6_ways_9 : decode cX6_ways 9 = .ok (.i2l, 1) := by decide +kernel
theorem dX6_ways_10 : decode cX6_ways 10 = .ok (.lconst 1, 1) := by decide +kernel
theorem dX6_ways_11 : decode cX6_ways 11 = .ok (.ldc2_w 70, 3) := by decide +kernel
theorem dX6_ways_14 : decode cX6_ways 14 = .ok (.invokestatic 57, 3) := by decide +kernel
theorem dX6_ways_17 : decode cX6_ways 17 = .ok (.ifCond .ne 7, 3) := by decide +kernel
theorem dX6_ways_20 : decode cX6_ways 20 = .ok (.ldc2_w 117, 3) := by decide +kernel
theorem dX6_ways_23 : decode cX6_ways 23 = .ok (.lreturn, 1) := by decide +kernel
theorem dX6_ways_24 : decode cX6_ways 24 = .ok (.aload_n 0, 1) := by decide +kernel
theorem dX6_ways_25 : decode cX6_ways 25 = .ok (.invokevirtual 119, 3) := by decide +kernel
theorem dX6_ways_28 : decode cX6_ways 28 = .ok (.aload_n 0, 1) := by decide +kernel
theorem dX6_ways_29 : decode cX6_ways 29 = .ok (.getfield 30, 3) := by decide +kernel
theorem dX6_ways_32 : decode cX6_ways 32 = .ok (.sipush 3001, 3) := by decide +kernel
theorem dX6_ways_35 : decode cX6_ways 35 = .ok (.iload_n 1, 1) := by decide +kernel
theorem dX6_ways_36 : decode cX6_ways 36 = .ok (.imul, 1) := by decide +kernel
theorem dX6_ways_37 : decode cX6_ways 37 = .ok (.iload_n 2, 1) := by decide +kernel
theorem dX6_ways_38 : decode cX6_ways 38 = .ok (.iadd, 1) := by decide +kernel
theorem dX6_ways_39 : decode cX6_ways 39 = .ok (.laload, 1) := by decide +kernel
theorem dX6_ways_40 : decode cX6_ways 40 = .ok (.lreturn, 1) := by decide +kernel
set_option maxRecDepth 20000 in
theorem ggX6_all_X6_in : GoodIn wsX6_all wsX6_in := goodIn_r _ [6] (by decide +kernel) (by decide +kernel)
set_option maxRecDepth 20000 in
theorem gX6_all_X6_in : GoodIn wsX6_all (va_wsS RX6 57 yX6_in wsX6_in) := goodIn_app (goodIn_of _ (by decide +kernel)) ggX6_all_X6_in
set_option maxRecDepth 20000 in
theorem ggX6_all_X6_heap : GoodIn wsX6_all wsX6_heap := goodIn_r _ [10, 11, 12, 13, 14, 15, 16, 17, 18, 5, 19, 20, 21, 22, 23, 24, 25, 26, 27, 28, 29, 30, 31, 32, 33, 34, 35, 36, 37, 38, 39, 40, 41, 42, 43, 48, 49, 50, 51, 52, 53, 54, 55, 56, 57, 58, 59, 60, 61, 62, 63, 64, 65, 66, 67] (by decide +kernel) (by decide +kernel)
set_option maxRecDepth 20000 in
theorem gX6_all_X6_heap : GoodIn wsX6_all (wsV RX6 119 RX6 yX6_heap wsX6_heap) := goodIn_app (goodIn_of _ (by decide +kernel)) ggX6_all_X6_heap
set_option maxRecDepth 20000 in
theorem ggX6_all_X6_allOf : GoodIn wsX6_all wsX6_allOf := goodIn_r _ [47, 13, 20, 48, 49, 50, 51, 52, 53, 54, 55, 56, 57, 58, 59, 60, 61, 62, 63, 64, 65, 66, 67] (by decide +kernel) (by decide +kernel)
set_option maxRecDepth 20000 in
theorem gX6_all_X6_allOf : GoodIn wsX6_all (wsV RX6 110 RX6 yX6_allOf wsX6_allOf) := goodIn_app (goodIn_of _ (by decide +kernel)) ggX6_all_X6_allOf
theorem dX6_all_0 : decode cX6_all 0 = .ok (.iload_n 1, 1) := by decide +kernel
theorem dX6_all_1 : decode cX6_all 1 = .ok (.i2l, 1) := by decide +kernel
theorem dX6_all_2 : decode cX6_all 2 = .ok (.lconst 1, 1) := by decide +kernel
theorem dX6_all_3 : decode cX6_all 3 = .ok (.ldc2_w 70, 3) := by decide +kernel
theorem dX6_all_6 : decode cX6_all 6 = .ok (.invokestatic 57, 3) := by decide +kernel
theorem dX6_all_9 : decode cX6_all 9 = .ok (.ifCond .ne 7, 3) := by decide +kernel
theorem dX6_all_12 : decode cX6_all 12 = .ok (.ldc2_w 117, 3) := by decide +kernel
theorem dX6_all_15 : decode cX6_all 15 = .ok (.lreturn, 1) := by decide +kernel
theorem dX6_all_16 : decode cX6_all 16 = .ok (.aload_n 0, 1) := by decide +kernel
theorem dX6_all_17 : decode cX6_all 17 = .ok (.invokevirtual 119, 3) := by decide +kernel
theorem dX6_all_20 : decode cX6_all 20 = .ok (.aload_n 0, 1) := by decide +kernel
theorem dX6_all_21 : decode cX6_all 21 = .ok (.iload_n 1, 1) := by decide +kernel
theorem dX6_all_22 : decode cX6_all 22 = .ok (.invokevirtual 110, 3) := by decide +kernel
theorem dX6_all_25 : decode cX6_all 25 = .ok (.lreturn, 1) := by decide +kernel
set_option maxRecDepth 20000 in
theorem ggX6_has_X6_isReached : GoodIn wsX6_has wsX6_isReached := goodIn_r _ [6, 7, 8, 9, 5, 10, 11, 1, 12, 13, 14, 15, 16, 17, 18, 19, 20, 21, 22, 23, 24, 25, 26, 27, 28, 29, 30, 31] (by decide +kernel) (by decide +kernel)
set_option maxRecDepth 20000 in
theorem gX6_has_X6_isReached : GoodIn wsX6_has (wsV RX6 122 RX6 yX6_isReached wsX6_isReached) := goodIn_app (goodIn_of _ (by decide +kernel)) ggX6_has_X6_isReached
theorem dX6_has_0 : decode cX6_has 0 = .ok (.iload_n 1, 1) := by decide +kernel
theorem dX6_has_1 : decode cX6_has 1 = .ok (.ifCond .ne 11, 3) := by decide +kernel
theorem dX6_has_4 : decode cX6_has 4 = .ok (.aload_n 0, 1) := by decide +kernel
theorem dX6_has_5 : decode cX6_has 5 = .ok (.iload_n 2, 1) := by decide +kernel
theorem dX6_has_6 : decode cX6_has 6 = .ok (.invokevirtual 122, 3) := by decide +kernel
theorem dX6_has_9 : decode cX6_has 9 = .ok (.goto 25, 3) := by decide +kernel
theorem dX6_has_12 : decode cX6_has 12 = .ok (.aload_n 0, 1) := by decide +kernel
theorem dX6_has_13 : decode cX6_has 13 = .ok (.getfield 30, 3) := by decide +kernel
theorem dX6_has_16 : decode cX6_has 16 = .ok (.sipush 3001, 3) := by decide +kernel
theorem dX6_has_19 : decode cX6_has 19 = .ok (.iload_n 1, 1) := by decide +kernel
theorem dX6_has_20 : decode cX6_has 20 = .ok (.imul, 1) := by decide +kernel
theorem dX6_has_21 : decode cX6_has 21 = .ok (.iload_n 2, 1) := by decide +kernel
theorem dX6_has_22 : decode cX6_has 22 = .ok (.iadd, 1) := by decide +kernel
theorem dX6_has_23 : decode cX6_has 23 = .ok (.laload, 1) := by decide +kernel
theorem dX6_has_24 : decode cX6_has 24 = .ok (.lconst 0, 1) := by decide +kernel
theorem dX6_has_25 : decode cX6_has 25 = .ok (.lcmp, 1) := by decide +kernel
theorem dX6_has_26 : decode cX6_has 26 = .ok (.ifCond .le 7, 3) := by decide +kernel
theorem dX6_has_29 : decode cX6_has 29 = .ok (.iconst 1, 1) := by decide +kernel
theorem dX6_has_30 : decode cX6_has 30 = .ok (.goto 4, 3) := by decide +kernel
theorem dX6_has_33 : decode cX6_has 33 = .ok (.iconst 0, 1) := by decide +kernel
theorem dX6_has_34 : decode cX6_has 34 = .ok (.ireturn, 1) := by decide +kernel
set_option maxRecDepth 20000 in
theorem ggX6_reached_X6_isSet : GoodIn wsX6_reached wsX6_isSet := goodIn_r _ [5, 6, 7, 8, 4, 9, 58, 59, 60, 61, 62, 63, 64, 65, 66, 67, 68, 69, 70, 71, 72, 73, 74, 75, 76, 77] (by decide +kernel) (by decide +kernel)
set_option maxRecDepth 20000 in
theorem gX6_reached_X6_isSet : GoodIn wsX6_reached (wsV RX6 114 RX6 yX6_isSet wsX6_isSet) := goodIn_app (goodIn_of _ (by decide +kernel)) ggX6_reached_X6_isSet
set_option maxRecDepth 20000 in
theorem ggX6_reached_X6_heap : GoodIn wsX6_reached wsX6_heap := goodIn_r _ [13, 14, 6, 15, 16, 17, 18, 19, 20, 4, 21, 22, 23, 24, 25, 26, 27, 28, 29, 30, 31, 32, 33, 34, 35, 36, 37, 38, 39, 40, 41, 42, 43, 44, 45, 58, 59, 60, 61, 62, 63, 64, 65, 66, 67, 68, 69, 70, 71, 72, 73, 74, 75, 76, 77] (by decide +kernel) (by decide +kernel)
set_option maxRecDepth 20000 in
theorem gX6_reached_X6_heap : GoodIn wsX6_reached (wsV RX6 119 RX6 yX6_heap wsX6_heap) := goodIn_app (goodIn_of _ (by decide +kernel)) ggX6_reached_X6_heap
set_option maxRecDepth 20000 in
theorem ggX6_reached_X6_has : GoodIn wsX6_reached wsX6_has := goodIn_r _ [49, 22, 50, 51, 52, 4, 53, 54, 55, 56, 57, 15, 58, 59, 60, 61, 62, 63, 64, 65, 66, 67, 68, 69, 70, 71, 72, 73, 74, 75, 76, 77] (by decide +kernel) (by decide +kernel)
set_option maxRecDepth 20000 in
theorem gX6_reached_X6_has : GoodIn wsX6_reached (wsV RX6 125 RX6 yX6_has wsX6_has) := goodIn_app (goodIn_of _ (by decide +kernel)) ggX6_reached_X6_has
theorem dX6_reached_0 : decode cX6_reached 0 = .ok (.iload_n 1, 1) := by decide +kernel
theorem dX6_reached_1 : decode cX6_reached 1 = .ok (.ifCond .eq 15, 3) := by decide +kernel
theorem dX6_reached_4 : decode cX6_reached 4 = .ok (.aload_n 0, 1) := by decide +kernel
theorem dX6_reached_5 : decode cX6_reached 5 = .ok (.iload_n 1, 1) := by decide +kernel
theorem dX6_reached_6 : decode cX6_reached 6 = .ok (.invokevirtual 114, 3) := by decide +kernel
theorem dX6_reached_9 : decode cX6_reached 9 = .ok (.ifCond .ne 7, 3) := by decide +kernel
theorem dX6_reached_12 : decode cX6_reached 12 = .ok (.sipush (-1002), 3) := by decide +kernel
theorem dX6_reached_15 : decode cX6_reached 15 = .ok (.ireturn, 1) := by decide +kernel
theorem dX6_reached_16 : decode cX6_reached 16 = .ok (.aload_n 0, 1) := by decide +kernel
theorem dX6_reached_17 : decode cX6_reached 17 = .ok (.invokevirtual 119, 3) := by decide +kernel
theorem dX6_reached_20 : decode cX6_reached 20 = .ok (.iconst 0, 1) := by decide +kernel
theorem dX6_reached_21 : decode cX6_reached 21 = .ok (.istore_n 2, 1) := by decide +kernel
theorem dX6_reached_22 : decode cX6_reached 22 = .ok (.iconst 1, 1) := by decide +kernel
theorem dX6_reached_23 : decode cX6_reached 23 = .ok (.istore_n 3, 1) := by decide +kernel
theorem dX6_reached_24 : decode cX6_reached 24 = .ok (.iload_n 3, 1) := by decide +kernel
theorem dX6_reached_25 : decode cX6_reached 25 = .ok (.sipush 3000, 3) := by decide +kernel
theorem dX6_reached_28 : decode cX6_reached 28 = .ok (.if_icmp .gt 26, 3) := by decide +kernel
theorem dX6_reached_31 : decode cX6_reached 31 = .ok (.iload_n 2, 1) := by decide +kernel
theorem dX6_reached_32 : decode cX6_reached 32 = .ok (.aload_n 0, 1) := by decide +kernel
theorem dX6_reached_33 : decode cX6_reached 33 = .ok (.iload_n 1, 1) := by decide +kernel
theorem dX6_reached_34 : decode cX6_reached 34 = .ok (.iload_n 3, 1) := by decide +kernel
theorem dX6_reached_35 : decode cX6_reached 35 = .ok (.invokevirtual 125, 3) := by decide +kernel
theorem dX6_reached_38 : decode cX6_reached 38 = .ok (.ifCond .eq 7, 3) := by decide +kernel
theorem dX6_reached_41 : decode cX6_reached 41 = .ok (.iconst 1, 1) := by decide +kernel
theorem dX6_reached_42 : decode cX6_reached 42 = .ok (.goto 4, 3) := by decide +kernel
theorem dX6_reached_45 : decode cX6_reached 45 = .ok (.iconst 0, 1) := by decide +kernel
theorem dX6_reached_46 : decode cX6_reached 46 = .ok (.iadd, 1) := by decide +kernel
theorem dX6_reached_47 : decode cX6_reached 47 = .ok (.istore_n 2, 1) := by decide +kernel
theorem dX6_reached_48 : decode cX6_reached 48 = .ok (.iinc 3 1, 3) := by decide +kernel
theorem dX6_reached_51 : decode cX6_reached 51 = .ok (.goto (-27), 3) := by decide +kernel
theorem dX6_reached_54 : decode cX6_reached 54 = .ok (.iload_n 2, 1) := by decide +kernel
theorem dX6_reached_55 : decode cX6_reached 55 = .ok (.ireturn, 1) := by decide +kernel
set_option maxRecDepth 20000 in
theorem ggX6_value_X6_isSet : GoodIn wsX6_value wsX6_isSet := goodIn_r _ [5, 6, 7, 8, 4, 9, 58, 59, 60, 61, 62, 63, 64, 65, 66, 67, 68, 69, 70, 71, 72, 73, 74, 75, 76, 77] (by decide +kernel) (by decide +kernel)
set_option maxRecDepth 20000 in
theorem gX6_value_X6_isSet : GoodIn wsX6_value (wsV RX6 114 RX6 yX6_isSet wsX6_isSet) := goodIn_app (goodIn_of _ (by decide +kernel)) ggX6_value_X6_isSet
set_option maxRecDepth 20000 in
theorem ggX6_value_X6_heap : GoodIn wsX6_value wsX6_heap := goodIn_r _ [13, 14, 6, 15, 16, 17, 18, 19, 20, 4, 21, 22, 23, 24, 25, 26, 27, 28, 29, 30, 31, 32, 33, 34, 35, 36, 37, 38, 39, 40, 41, 42, 43, 44, 45, 58, 59, 60, 61, 62, 63, 64, 65, 66, 67, 68, 69, 70, 71, 72, 73, 74, 75, 76, 77] (by decide +kernel) (by decide +kernel)
set_option maxRecDepth 20000 in
theorem gX6_value_X6_heap : GoodIn wsX6_value (wsV RX6 119 RX6 yX6_heap wsX6_heap) := goodIn_app (goodIn_of _ (by decide +kernel)) ggX6_value_X6_heap
set_option maxRecDepth 20000 in
theorem ggX6_value_X6_has : GoodIn wsX6_value wsX6_has := goodIn_r _ [49, 22, 50, 51, 52, 4, 53, 54, 55, 56, 57, 15, 58, 59, 60, 61, 62, 63, 64, 65, 66, 67, 68, 69, 70, 71, 72, 73, 74, 75, 76, 77] (by decide +kernel) (by decide +kernel)
set_option maxRecDepth 20000 in
theorem gX6_value_X6_has : GoodIn wsX6_value (wsV RX6 125 RX6 yX6_has wsX6_has) := goodIn_app (goodIn_of _ (by decide +kernel)) ggX6_value_X6_has
theorem dX6_value_0 : decode cX6_value 0 = .ok (.iload_n 1, 1) := by decide +kernel
theorem dX6_value_1 : decode cX6_value 1 = .ok (.ifCond .eq 15, 3) := by decide +kernel
theorem dX6_value_4 : decode cX6_value 4 = .ok (.aload_n 0, 1) := by decide +kernel
theorem dX6_value_5 : decode cX6_value 5 = .ok (.iload_n 1, 1) := by decide +kernel
theorem dX6_value_6 : decode cX6_value 6 = .ok (.invokevirtual 114, 3) := by decide +kernel
theorem dX6_value_9 : decode cX6_value 9 = .ok (.ifCond .ne 7, 3) := by decide +kernel
theorem dX6_value_12 : decode cX6_value 12 = .ok (.sipush (-1002), 3) := by decide +kernel
theorem dX6_value_15 : decode cX6_value 15 = .ok (.ireturn, 1) := by decide +kernel
theorem dX6_value_16 : decode cX6_value 16 = .ok (.aload_n 0, 1) := by decide +kernel
theorem dX6_value_17 : decode cX6_value 17 = .ok (.invokevirtual 119, 3) := by decide +kernel
theorem dX6_value_20 : decode cX6_value 20 = .ok (.iconst 0, 1) := by decide +kernel
theorem dX6_value_21 : decode cX6_value 21 = .ok (.istore_n 3, 1) := by decide +kernel
theorem dX6_value_22 : decode cX6_value 22 = .ok (.iconst 1, 1) := by decide +kernel
theorem dX6_value_23 : decode cX6_value 23 = .ok (.istore 4, 2) := by decide +kernel
theorem dX6_value_25 : decode cX6_value 25 = .ok (.iload 4, 2) := by decide +kernel
theorem dX6_value_27 : decode cX6_value 27 = .ok (.sipush 3000, 3) := by decide +kernel
theorem dX6_value_30 : decode cX6_value 30 = .ok (.if_icmp .gt 30, 3) := by decide +kernel
theorem dX6_value_33 : decode cX6_value 33 = .ok (.aload_n 0, 1) := by decide +kernel
theorem dX6_value_34 : decode cX6_value 34 = .ok (.iload_n 1, 1) := by decide +kernel
theorem dX6_value_35 : decode cX6_value 35 = .ok (.iload 4, 2) := by decide +kernel
theorem dX6_value_37 : decode cX6_value 37 = .ok (.invokevirtual 125, 3) := by decide +kernel
theorem dX6_value_40 : decode cX6_value 40 = .ok (.ifCond .eq 14, 3) := by decide +kernel
theorem dX6_value_43 : decode cX6_value 43 = .ok (.iload_n 3, 1) := by decide +kernel
theorem dX6_value_44 : decode cX6_value 44 = .ok (.iload_n 2, 1) := by decide +kernel
theorem dX6_value_45 : decode cX6_value 45 = .ok (.if_icmp .ne 6, 3) := by decide +kernel
theorem dX6_value_48 : decode cX6_value 48 = .ok (.iload 4, 2) := by decide +kernel
theorem dX6_value_50 : decode cX6_value 50 = .ok (.ireturn, 1) := by decide +kernel
theorem dX6_value_51 : decode cX6_value 51 = .ok (.iinc 3 1, 3) := by decide +kernel
theorem dX6_value_54 : decode cX6_value 54 = .ok (.iinc 4 1, 3) := by decide +kernel
theorem dX6_value_57 : decode cX6_value 57 = .ok (.goto (-32), 3) := by decide +kernel
theorem dX6_value_60 : decode cX6_value 60 = .ok (.iconst (-1), 1) := by decide +kernel
theorem dX6_value_61 : decode cX6_value 61 = .ok (.ireturn, 1) := by decide +kernel
set_option maxRecDepth 20000 in
theorem ggX6_missing_X6_heap : GoodIn wsX6_missing wsX6_heap := goodIn_r _ [5, 6, 7, 8, 9, 10, 11, 12, 13, 4, 14, 15, 16, 17, 18, 19, 20, 21, 22, 23, 24, 25, 26, 27, 28, 29, 30, 31, 32, 33, 34, 35, 36, 37, 38, 47, 48, 49, 50, 51, 52, 53, 54, 55, 56, 57, 58, 59, 60, 61, 62, 63, 64, 65, 66] (by decide +kernel) (by decide +kernel)
set_option maxRecDepth 20000 in
theorem gX6_missing_X6_heap : GoodIn wsX6_missing (wsV RX6 119 RX6 yX6_heap wsX6_heap) := goodIn_app (goodIn_of _ (by decide +kernel)) ggX6_missing_X6_heap
set_option maxRecDepth 20000 in
theorem ggX6_missing_X6_isReached : GoodIn wsX6_missing wsX6_isReached := goodIn_r _ [42, 43, 44, 45, 4, 46, 8, 15, 47, 48, 49, 50, 51, 52, 53, 54, 55, 56, 57, 58, 59, 60, 61, 62, 63, 64, 65, 66] (by decide +kernel) (by decide +kernel)
set_option maxRecDepth 20000 in
theorem gX6_missing_X6_isReached : GoodIn wsX6_missing (wsV RX6 122 RX6 yX6_isReached wsX6_isReached) := goodIn_app (goodIn_of _ (by decide +kernel)) ggX6_missing_X6_isReached
theorem dX6_missing_0 : decode cX6_missing 0 = .ok (.aload_n 0, 1) := by decide +kernel
theorem dX6_missing_1 : decode cX6_missing 1 = .ok (.invokevirtual 119, 3) := by decide +kernel
theorem dX6_missing_4 : decode cX6_missing 4 = .ok (.iconst 1, 1) := by decide +kernel
theorem dX6_missing_5 : decode cX6_missing 5 = .ok (.istore_n 1, 1) := by decide +kernel
theorem dX6_missing_6 : decode cX6_missing 6 = .ok (.iload_n 1, 1) := by decide +kernel
theorem dX6_missing_7 : decode cX6_missing 7 = .ok (.sipush 3000, 3) := by decide +kernel
theorem dX6_missing_10 : decode cX6_missing 10 = .ok (.if_icmp .gt 17, 3) := by decide +kernel
theorem dX6_missing_13 : decode cX6_missing 13 = .ok (.aload_n 0, 1) := by decide +kernel
theorem dX6_missing_14 : decode cX6_missing 14 = .ok (.iload_n 1, 1) := by decide +kernel
theorem dX6_missing_15 : decode cX6_missing 15 = .ok (.invokevirtual 122, 3) := by decide +kernel
theorem dX6_missing_18 : decode cX6_missing 18 = .ok (.ifCond .eq 9, 3) := by decide +kernel
theorem dX6_missing_21 : decode cX6_missing 21 = .ok (.iinc 1 1, 3) := by decide +kernel
theorem dX6_missing_24 : decode cX6_missing 24 = .ok (.goto (-18), 3) := by decide +kernel
theorem dX6_missing_27 : decode cX6_missing 27 = .ok (.iload_n 1, 1) := by decide +kernel
theorem dX6_missing_28 : decode cX6_missing 28 = .ok (.ireturn, 1) := by decide +kernel
set_option maxRecDepth 20000 in
theorem ggX6_firstSet_X6_bits : GoodIn wsX6_firstSet wsX6_bits := goodIn_r _ [6] (by decide +kernel) (by decide +kernel)
set_option maxRecDepth 20000 in
theorem gX6_firstSet_X6_bits : GoodIn wsX6_firstSet (va_wsS RX6 99 yX6_bits wsX6_bits) := goodIn_app (goodIn_of _ (by decide +kernel)) ggX6_firstSet_X6_bits
theorem dX6_firstSet_0 : decode cX6_firstSet 0 = .ok (.iconst (-1), 1) := by decide +kernel
theorem dX6_firstSet_1 : decode cX6_firstSet 1 = .ok (.istore_n 2, 1) := by decide +kernel
theorem dX6_firstSet_2 : decode cX6_firstSet 2 = .ok (.iconst 1, 1) := by decide +kernel
theorem dX6_firstSet_3 : decode cX6_firstSet 3 = .ok (.istore_n 3, 1) := by decide +kernel
theorem dX6_firstSet_4 : decode cX6_firstSet 4 = .ok (.iload_n 3, 1) := by decide +kernel
theorem dX6_firstSet_5 : decode cX6_firstSet 5 = .ok (.iconst 1, 1) := by decide +kernel
theorem dX6_firstSet_6 : decode cX6_firstSet 6 = .ok (.aload_n 0, 1) := by decide +kernel
theorem dX6_firstSet_7 : decode cX6_firstSet 7 = .ok (.getfield 96, 3) := by decide +kernel
theorem dX6_firstSet_10 : decode cX6_firstSet 10 = .ok (.ishl, 1) := by decide +kernel
theorem dX6_firstSet_11 : decode cX6_firstSet 11 = .ok (.if_icmp .ge 43, 3) := by decide +kernel
theorem dX6_firstSet_14 : decode cX6_firstSet 14 = .ok (.aload_n 0, 1) := by decide +kernel
theorem dX6_firstSet_15 : decode cX6_firstSet 15 = .ok (.getfield 30, 3) := by decide +kernel
theorem dX6_firstSet_18 : decode cX6_firstSet 18 = .ok (.sipush 3001, 3) := by decide +kernel
theorem dX6_firstSet_21 : decode cX6_firstSet 21 = .ok (.iload_n 3, 1) := by decide +kernel
theorem dX6_firstSet_22 : decode cX6_firstSet 22 = .ok (.imul, 1) := by decide +kernel
theorem dX6_firstSet_23 : decode cX6_firstSet 23 = .ok (.iload_n 1, 1) := by decide +kernel
theorem dX6_firstSet_24 : decode cX6_firstSet 24 = .ok (.iadd, 1) := by decide +kernel
theorem dX6_firstSet_25 : decode cX6_firstSet 25 = .ok (.laload, 1) := by decide +kernel
theorem dX6_firstSet_26 : decode cX6_firstSet 26 = .ok (.lconst 0, 1) := by decide +kernel
theorem dX6_firstSet_27 : decode cX6_firstSet 27 = .ok (.lcmp, 1) := by decide +kernel
theorem dX6_firstSet_28 : decode cX6_firstSet 28 = .ok (.ifCond .le 20, 3) := by decide +kernel
theorem dX6_firstSet_31 : decode cX6_firstSet 31 = .ok (.iload_n 2, 1) := by decide +kernel
theorem dX6_firstSet_32 : decode cX6_firstSet 32 = .ok (.ifCond .lt 14, 3) := by decide +kernel
theorem dX6_firstSet_35 : decode cX6_firstSet 35 = .ok (.iload_n 3, 1) := by decide +kernel
theorem dX6_firstSet_36 : decode cX6_firstSet 36 = .ok (.invokestatic 99, 3) := by decide +kernel
theorem dX6_firstSet_39 : decode cX6_firstSet 39 = .ok (.iload_n 2, 1) := by decide +kernel
theorem dX6_firstSet_40 : decode cX6_firstSet 40 = .ok (.invokestatic 99, 3) := by decide +kernel
theorem dX6_firstSet_43 : decode cX6_firstSet 43 = .ok (.if_icmp .ge 5, 3) := by decide +kernel
theorem dX6_firstSet_46 : decode cX6_firstSet 46 = .ok (.iload_n 3, 1) := by decide +kernel
theorem dX6_firstSet_47 : decode cX6_firstSet 47 = .ok (.istore_n 2, 1) := by decide +kernel
theorem dX6_firstSet_48 : decode cX6_firstSet 48 = .ok (.iinc 3 1, 3) := by decide +kernel
theorem dX6_firstSet_51 : decode cX6_firstSet 51 = .ok (.goto (-47), 3) := by decide +kernel
theorem dX6_firstSet_54 : decode cX6_firstSet 54 = .ok (.iload_n 2, 1) := by decide +kernel
theorem dX6_firstSet_55 : decode cX6_firstSet 55 = .ok (.ireturn, 1) := by decide +kernel
set_option maxRecDepth 20000 in
theorem ggX6_nearest_X6_isReached : GoodIn wsX6_nearest wsX6_isReached := goodIn_r _ [5, 6, 7, 8, 4, 9, 10, 11, 12, 13, 14, 15, 16, 17, 18, 19, 20, 21, 22, 23, 24, 25, 26, 27, 28, 29, 30, 31] (by decide +kernel) (by decide +kernel)
set_option maxRecDepth 20000 in
theorem gX6_nearest_X6_isReached : GoodIn wsX6_nearest (wsV RX6 122 RX6 yX6_isReached wsX6_isReached) := goodIn_app (goodIn_of _ (by decide +kernel)) ggX6_nearest_X6_isReached
theorem dX6_nearest_0 : decode cX6_nearest 0 = .ok (.iconst (-1), 1) := by decide +kernel
theorem dX6_nearest_1 : decode cX6_nearest 1 = .ok (.istore_n 2, 1) := by decide +kernel
theorem dX6_nearest_2 : decode cX6_nearest 2 = .ok (.iconst 0, 1) := by decide +kernel
theorem dX6_nearest_3 : decode cX6_nearest 3 = .ok (.istore_n 3, 1) := by decide +kernel
theorem dX6_nearest_4 : decode cX6_nearest 4 = .ok (.iconst 1, 1) := by decide +kernel
theorem dX6_nearest_5 : decode cX6_nearest 5 = .ok (.istore 4, 2) := by decide +kernel
theorem dX6_nearest_7 : decode cX6_nearest 7 = .ok (.iload 4, 2) := by decide +kernel
theorem dX6_nearest_9 : decode cX6_nearest 9 = .ok (.sipush 3000, 3) := by decide +kernel
theorem dX6_nearest_12 : decode cX6_nearest 12 = .ok (.if_icmp .gt 53, 3) := by decide +kernel
theorem dX6_nearest_15 : decode cX6_nearest 15 = .ok (.iload 4, 2) := by decide +kernel
theorem dX6_nearest_17 : decode cX6_nearest 17 = .ok (.iload_n 1, 1) := by decide +kernel
theorem dX6_nearest_18 : decode cX6_nearest 18 = .ok (.if_icmp .le 10, 3) := by decide +kernel
theorem dX6_nearest_21 : decode cX6_nearest 21 = .ok (.iload 4, 2) := by decide +kernel
theorem dX6_nearest_23 : decode cX6_nearest 23 = .ok (.iload_n 1, 1) := by decide +kernel
theorem dX6_nearest_24 : decode cX6_nearest 24 = .ok (.isub, 1) := by decide +kernel
theorem dX6_nearest_25 : decode cX6_nearest 25 = .ok (.goto 7, 3) := by decide +kernel
theorem dX6_nearest_28 : decode cX6_nearest 28 = .ok (.iload_n 1, 1) := by decide +kernel
theorem dX6_nearest_29 : decode cX6_nearest 29 = .ok (.iload 4, 2) := by decide +kernel
theorem dX6_nearest_31 : decode cX6_nearest 31 = .ok (.isub, 1) := by decide +kernel
theorem dX6_nearest_32 : decode cX6_nearest 32 = .ok (.istore 5, 2) := by decide +kernel
theorem dX6_nearest_34 : decode cX6_nearest 34 = .ok (.aload_n 0, 1) := by decide +kernel
theorem dX6_nearest_35 : decode cX6_nearest 35 = .ok (.iload 4, 2) := by decide +kernel
theorem dX6_nearest_37 : decode cX6_nearest 37 = .ok (.invokevirtual 122, 3) := by decide +kernel
theorem dX6_nearest_40 : decode cX6_nearest 40 = .ok (.ifCond .eq 19, 3) := by decide +kernel
theorem dX6_nearest_43 : decode cX6_nearest 43 = .ok (.iload_n 2, 1) := by decide +kernel
theorem dX6_nearest_44 : decode cX6_nearest 44 = .ok (.ifCond .lt 9, 3) := by decide +kernel
theorem dX6_nearest_47 : decode cX6_nearest 47 = .ok (.iload 5, 2) := by decide +kernel
theorem dX6_nearest_49 : decode cX6_nearest 49 = .ok (.iload_n 3, 1) := by decide +kernel
theorem dX6_nearest_50 : decode cX6_nearest 50 = .ok (.if_icmp .ge 9, 3) := by decide +kernel
theorem dX6_nearest_53 : decode cX6_nearest 53 = .ok (.iload 4, 2) := by decide +kernel
theorem dX6_nearest_55 : decode cX6_nearest 55 = .ok (.istore_n 2, 1) := by decide +kernel
theorem dX6_nearest_56 : decode cX6_nearest 56 = .ok (.iload 5, 2) := by decide +kernel
theorem dX6_nearest_58 : decode cX6_nearest 58 = .ok (.istore_n 3, 1) := by decide +kernel
theorem dX6_nearest_59 : decode cX6_nearest 59 = .ok (.iinc 4 1, 3) := by decide +kernel
theorem dX6_nearest_62 : decode cX6_nearest 62 = .ok (.goto (-55), 3) := by decide +kernel
theorem dX6_nearest_65 : decode cX6_nearest 65 = .ok (.iload_n 2, 1) := by decide +kernel
theorem dX6_nearest_66 : decode cX6_nearest 66 = .ok (.ireturn, 1) := by decide +kernel
set_option maxRecDepth 20000 in
theorem ggX6_aim_X6_in : GoodIn wsX6_aim wsX6_in := goodIn_r _ [6] (by decide +kernel) (by decide +kernel)
set_option maxRecDepth 20000 in
theorem gX6_aim_X6_in : GoodIn wsX6_aim (va_wsS RX6 57 yX6_in wsX6_in) := goodIn_app (goodIn_of _ (by decide +kernel)) ggX6_aim_X6_in
set_option maxRecDepth 20000 in
theorem ggX6_aim_X6_heap : GoodIn wsX6_aim wsX6_heap := goodIn_r _ [10, 11, 12, 13, 14, 15, 16, 17, 18, 5, 19, 20, 21, 22, 23, 24, 25, 26, 27, 28, 29, 30, 31, 32, 33, 34, 35, 36, 37, 38, 39, 40, 41, 42, 43, 60, 61, 62, 63, 64, 65, 66, 67, 68, 69, 70, 71, 72, 73, 74, 75, 76, 77, 78, 79] (by decide +kernel) (by decide +kernel)
set_option maxRecDepth 20000 in
theorem gX6_aim_X6_heap : GoodIn wsX6_aim (wsV RX6 119 RX6 yX6_heap wsX6_heap) := goodIn_app (goodIn_of _ (by decide +kernel)) ggX6_aim_X6_heap
set_option maxRecDepth 20000 in
theorem ggX6_aim_X6_firstSet : GoodIn wsX6_aim wsX6_firstSet := goodIn_r _ [47, 13, 20, 21, 22, 5, 23, 60, 61, 62, 63, 64, 65, 66, 67, 68, 69, 70, 71, 72, 73, 74, 75, 76, 77, 78, 79] (by decide +kernel) (by decide +kernel)
set_option maxRecDepth 20000 in
theorem gX6_aim_X6_firstSet : GoodIn wsX6_aim (wsV RX6 131 RX6 yX6_firstSet wsX6_firstSet) := goodIn_app (goodIn_of _ (by decide +kernel)) ggX6_aim_X6_firstSet
set_option maxRecDepth 20000 in
theorem ggX6_aim_X6_bits : GoodIn wsX6_aim wsX6_bits := goodIn_r _ [23] (by decide +kernel) (by decide +kernel)
set_option maxRecDepth 20000 in
theorem gX6_aim_X6_bits : GoodIn wsX6_aim (va_wsS RX6 99 yX6_bits wsX6_bits) := goodIn_app (goodIn_of _ (by decide +kernel)) ggX6_aim_X6_bits
set_option maxRecDepth 20000 in
theorem ggX6_aim_X6_nearest : GoodIn wsX6_aim wsX6_nearest := goodIn_r _ [51, 52, 53, 54, 5, 55, 56, 57, 58, 59, 13, 20, 60, 61, 62, 63, 64, 65, 66, 67, 68, 69, 70, 71, 72, 73, 74, 75, 76, 77, 78, 79] (by decide +kernel) (by decide +kernel)
set_option maxRecDepth 20000 in
theorem gX6_aim_X6_nearest : GoodIn wsX6_aim (wsV RX6 134 RX6 yX6_nearest wsX6_nearest) := goodIn_app (goodIn_of _ (by decide +kernel)) ggX6_aim_X6_nearest
theorem dX6_aim_0 : decode cX6_aim 0 = .ok (.iload_n 1, 1) := by decide +kernel
theorem dX6_aim_1 : decode cX6_aim 1 = .ok (.i2l, 1) := by decide +kernel
theorem dX6_aim_2 : decode cX6_aim 2 = .ok (.lconst 1, 1) := by decide +kernel
theorem dX6_aim_3 : decode cX6_aim 3 = .ok (.ldc2_w 70, 3) := by decide +kernel
theorem dX6_aim_6 : decode cX6_aim 6 = .ok (.invokestatic 57, 3) := by decide +kernel
theorem dX6_aim_9 : decode cX6_aim 9 = .ok (.ifCond .eq 15, 3) := by decide +kernel
theorem dX6_aim_12 : decode cX6_aim 12 = .ok (.iload_n 2, 1) := by decide +kernel
theorem dX6_aim_13 : decode cX6_aim 13 = .ok (.i2l, 1) := by decide +kernel
theorem dX6_aim_14 : decode cX6_aim 14 = .ok (.lconst 0, 1) := by decide +kernel
theorem dX6_aim_15 : decode cX6_aim 15 = .ok (.ldc2_w 129, 3) := by decide +kernel
theorem dX6_aim_18 : decode cX6_aim 18 = .ok (.invokestatic 57, 3) := by decide +kernel
theorem dX6_aim_21 : decode cX6_aim 21 = .ok (.ifCond .ne 7, 3) := by decide +kernel
theorem dX6_aim_24 : decode cX6_aim 24 = .ok (.sipush (-1002), 3) := by decide +kernel
theorem dX6_aim_27 : decode cX6_aim 27 = .ok (.ireturn, 1) := by decide +kernel
theorem dX6_aim_28 : decode cX6_aim 28 = .ok (.aload_n 0, 1) := by decide +kernel
theorem dX6_aim_29 : decode cX6_aim 29 = .ok (.invokevirtual 119, 3) := by decide +kernel
theorem dX6_aim_32 : decode cX6_aim 32 = .ok (.aload_n 0, 1) := by decide +kernel
theorem dX6_aim_33 : decode cX6_aim 33 = .ok (.iload_n 1, 1) := by decide +kernel
theorem dX6_aim_34 : decode cX6_aim 34 = .ok (.invokevirtual 131, 3) := by decide +kernel
theorem dX6_aim_37 : decode cX6_aim 37 = .ok (.istore_n 3, 1) := by decide +kernel
theorem dX6_aim_38 : decode cX6_aim 38 = .ok (.iload_n 2, 1) := by decide +kernel
theorem dX6_aim_39 : decode cX6_aim 39 = .ok (.tableswitch 50 0 2 #[25, 35, 48], 25) := by decide +kernel
theorem dX6_aim_64 : decode cX6_aim 64 = .ok (.iload_n 3, 1) := by decide +kernel
theorem dX6_aim_65 : decode cX6_aim 65 = .ok (.ifCond .lt 7, 3) := by decide +kernel
theorem dX6_aim_68 : decode cX6_aim 68 = .ok (.iconst 1, 1) := by decide +kernel
theorem dX6_aim_69 : decode cX6_aim 69 = .ok (.goto 4, 3) := by decide +kernel
theorem dX6_aim_72 : decode cX6_aim 72 = .ok (.iconst 0, 1) := by decide +kernel
theorem dX6_aim_73 : decode cX6_aim 73 = .ok (.ireturn, 1) := by decide +kernel
theorem dX6_aim_74 : decode cX6_aim 74 = .ok (.iload_n 3, 1) := by decide +kernel
theorem dX6_aim_75 : decode cX6_aim 75 = .ok (.ifCond .lt 10, 3) := by decide +kernel
theorem dX6_aim_78 : decode cX6_aim 78 = .ok (.iload_n 3, 1) := by decide +kernel
theorem dX6_aim_79 : decode cX6_aim 79 = .ok (.invokestatic 99, 3) := by decide +kernel
theorem dX6_aim_82 : decode cX6_aim 82 = .ok (.goto 4, 3) := by decide +kernel
theorem dX6_aim_85 : decode cX6_aim 85 = .ok (.iconst (-1), 1) := by decide +kernel
theorem dX6_aim_86 : decode cX6_aim 86 = .ok (.ireturn, 1) := by decide +kernel
theorem dX6_aim_87 : decode cX6_aim 87 = .ok (.iload_n 3, 1) := by decide +kernel
theorem dX6_aim_88 : decode cX6_aim 88 = .ok (.ireturn, 1) := by decide +kernel
theorem dX6_aim_89 : decode cX6_aim 89 = .ok (.aload_n 0, 1) := by decide +kernel
theorem dX6_aim_90 : decode cX6_aim 90 = .ok (.iload_n 1, 1) := by decide +kernel
theorem dX6_aim_91 : decode cX6_aim 91 = .ok (.invokevirtual 134, 3) := by decide +kernel
theorem dX6_aim_94 : decode cX6_aim 94 = .ok (.ireturn, 1) := by decide +kernel
theorem dX6_later_0 : decode cX6_later 0 = .ok (.aload_n 0, 1) := by decide +kernel
theorem dX6_later_1 : decode cX6_later 1 = .ok (.getfield 40, 3) := by decide +kernel
theorem dX6_later_4 : decode cX6_later 4 = .ok (.aload_n 0, 1) := by decide +kernel
theorem dX6_later_5 : decode cX6_later 5 = .ok (.getfield 137, 3) := by decide +kernel
theorem dX6_later_8 : decode cX6_later 8 = .ok (.iload_n 1, 1) := by decide +kernel
theorem dX6_later_9 : decode cX6_later 9 = .ok (.iastore, 1) := by decide +kernel
theorem dX6_later_10 : decode cX6_later 10 = .ok (.aload_n 0, 1) := by decide +kernel
theorem dX6_later_11 : decode cX6_later 11 = .ok (.getfield 43, 3) := by decide +kernel
theorem dX6_later_14 : decode cX6_later 14 = .ok (.aload_n 0, 1) := by decide +kernel
theorem dX6_later_15 : decode cX6_later 15 = .ok (.getfield 137, 3) := by decide +kernel
theorem dX6_later_18 : decode cX6_later 18 = .ok (.iload_n 2, 1) := by decide +kernel
theorem dX6_later_19 : decode cX6_later 19 = .ok (.iastore, 1) := by decide +kernel
theorem dX6_later_20 : decode cX6_later 20 = .ok (.aload_n 0, 1) := by decide +kernel
theorem dX6_later_21 : decode cX6_later 21 = .ok (.dup, 1) := by decide +kernel
theorem dX6_later_22 : decode cX6_later 22 = .ok (.getfield 137, 3) := by decide +kernel
theorem dX6_later_25 : decode cX6_later 25 = .ok (.iconst 1, 1) := by decide +kernel
theorem dX6_later_26 : decode cX6_later 26 = .ok (.iadd, 1) := by decide +kernel
theorem dX6_later_27 : decode cX6_later 27 = .ok (.putfield 137, 3) := by decide +kernel
theorem dX6_later_30 : decode cX6_later 30 = .ok (.return_, 1) := by decide +kernel
theorem dX6_put_0 : decode cX6_put 0 = .ok (.aload_n 0, 1) := by decide +kernel
theorem dX6_put_1 : decode cX6_put 1 = .ok (.getfield 23, 3) := by decide +kernel
theorem dX6_put_4 : decode cX6_put 4 = .ok (.aload_n 0, 1) := by decide +kernel
theorem dX6_put_5 : decode cX6_put 5 = .ok (.getfield 81, 3) := by decide +kernel
theorem dX6_put_8 : decode cX6_put 8 = .ok (.iload_n 1, 1) := by decide +kernel
theorem dX6_put_9 : decode cX6_put 9 = .ok (.iastore, 1) := by decide +kernel
theorem dX6_put_10 : decode cX6_put 10 = .ok (.aload_n 0, 1) := by decide +kernel
theorem dX6_put_11 : decode cX6_put 11 = .ok (.dup, 1) := by decide +kernel
theorem dX6_put_12 : decode cX6_put 12 = .ok (.getfield 81, 3) := by decide +kernel
theorem dX6_put_15 : decode cX6_put 15 = .ok (.iconst 1, 1) := by decide +kernel
theorem dX6_put_16 : decode cX6_put 16 = .ok (.iadd, 1) := by decide +kernel
theorem dX6_put_17 : decode cX6_put 17 = .ok (.putfield 81, 3) := by decide +kernel
theorem dX6_put_20 : decode cX6_put 20 = .ok (.return_, 1) := by decide +kernel
set_option maxRecDepth 20000 in
theorem ggX6_putNumber_X6_put : GoodIn wsX6_putNumber wsX6_put := goodIn_r _ [5, 6, 7, 8, 9, 10, 11, 12, 13, 14, 15, 16, 17, 18, 19, 20, 21, 22, 23, 24, 25, 26, 27] (by decide +kernel) (by decide +kernel)
set_option maxRecDepth 20000 in
theorem gX6_putNumber_X6_put : GoodIn wsX6_putNumber (wsV RX6 140 RX6 yX6_put wsX6_put) := goodIn_app (goodIn_of _ (by decide +kernel)) ggX6_putNumber_X6_put
theorem dX6_putNumber_0 : decode cX6_putNumber 0 = .ok (.iload_n 1, 1) := by decide +kernel
theorem dX6_putNumber_1 : decode cX6_putNumber 1 = .ok (.bipush 99, 2) := by decide +kernel
theorem dX6_putNumber_3 : decode cX6_putNumber 3 = .ok (.if_icmp .le 14, 3) := by decide +kernel
theorem dX6_putNumber_6 : decode cX6_putNumber 6 = .ok (.aload_n 0, 1) := by decide +kernel
theorem dX6_putNumber_7 : decode cX6_putNumber 7 = .ok (.bipush 48, 2) := by decide +kernel
theorem dX6_putNumber_9 : decode cX6_putNumber 9 = .ok (.iload_n 1, 1) := by decide +kernel
theorem dX6_putNumber_10 : decode cX6_putNumber 10 = .ok (.bipush 100, 2) := by decide +kernel
theorem dX6_putNumber_12 : decode cX6_putNumber 12 = .ok (.idiv, 1) := by decide +kernel
theorem dX6_putNumber_13 : decode cX6_putNumber 13 = .ok (.iadd, 1) := by decide +kernel
theorem dX6_putNumber_14 : decode cX6_putNumber 14 = .ok (.invokevirtual 140, 3) := by decide +kernel
theorem dX6_putNumber_17 : decode cX6_putNumber 17 = .ok (.iload_n 1, 1) := by decide +kernel
theorem dX6_putNumber_18 : decode cX6_putNumber 18 = .ok (.bipush 9, 2) := by decide +kernel
theorem dX6_putNumber_20 : decode cX6_putNumber 20 = .ok (.if_icmp .le 17, 3) := by decide +kernel
theorem dX6_putNumber_23 : decode cX6_putNumber 23 = .ok (.aload_n 0, 1) := by decide +kernel
theorem dX6_putNumber_24 : decode cX6_putNumber 24 = .ok (.bipush 48, 2) := by decide +kernel
theorem dX6_putNumber_26 : decode cX6_putNumber 26 = .ok (.iload_n 1, 1) := by decide +kernel
theorem dX6_putNumber_27 : decode cX6_putNumber 27 = .ok (.bipush 10, 2) := by decide +kernel
theorem dX6_putNumber_29 : decode cX6_putNumber 29 = .ok (.idiv, 1) := by decide +kernel
theorem dX6_putNumber_30 : decode cX6_putNumber 30 = .ok (.bipush 10, 2) := by decide +kernel
theorem dX6_putNumber_32 : decode cX6_putNumber 32 = .ok (.irem, 1) := by decide +kernel
theorem dX6_putNumber_33 : decode cX6_putNumber 33 = .ok (.iadd, 1) := by decide +kernel
theorem dX6_putNumber_34 : decode cX6_putNumber 34 = .ok (.invokevirtual 140, 3) := by decide +kernel
theorem dX6_putNumber_37 : decode cX6_putNumber 37 = .ok (.aload_n 0, 1) := by decide +kernel
theorem dX6_putNumber_38 : decode cX6_putNumber 38 = .ok (.bipush 48, 2) := by decide +kernel
theorem dX6_putNumber_40 : decode cX6_putNumber 40 = .ok (.iload_n 1, 1) := by decide +kernel
theorem dX6_putNumber_41 : decode cX6_putNumber 41 = .ok (.bipush 10, 2) := by decide +kernel
theorem dX6_putNumber_43 : decode cX6_putNumber 43 = .ok (.irem, 1) := by decide +kernel
theorem dX6_putNumber_44 : decode cX6_putNumber 44 = .ok (.iadd, 1) := by decide +kernel
theorem dX6_putNumber_45 : decode cX6_putNumber 45 = .ok (.invokevirtual 140, 3) := by decide +kernel
theorem dX6_putNumber_48 : decode cX6_putNumber 48 = .ok (.return_, 1) := by decide +kernel
theorem dX6_other_0 : decode cX6_other 0 = .ok (.iload_n 1, 1) := by decide +kernel
theorem dX6_other_1 : decode cX6_other 1 = .ok (.tableswitch 67 0 2 #[27, 40, 53], 27) := by decide +kernel
theorem dX6_other_28 : decode cX6_other 28 = .ok (.iload_n 3, 1) := by decide +kernel
theorem dX6_other_29 : decode cX6_other 29 = .ok (.iload_n 2, 1) := by decide +kernel
theorem dX6_other_30 : decode cX6_other 30 = .ok (.if_icmp .le 9, 3) := by decide +kernel
theorem dX6_other_33 : decode cX6_other 33 = .ok (.iload_n 3, 1) := by decide +kernel
theorem dX6_other_34 : decode cX6_other 34 = .ok (.iload_n 2, 1) := by decide +kernel
theorem dX6_other_35 : decode cX6_other 35 = .ok (.isub, 1) := by decide +kernel
theorem dX6_other_36 : decode cX6_other 36 = .ok (.goto 4, 3) := by decide +kernel
theorem dX6_other_39 : decode cX6_other 39 = .ok (.iconst (-1), 1) := by decide +kernel
theorem dX6_other_40 : decode cX6_other 40 = .ok (.ireturn, 1) := by decide +kernel
theorem dX6_other_41 : decode cX6_other 41 = .ok (.iload_n 2, 1) := by decide +kernel
theorem dX6_other_42 : decode cX6_other 42 = .ok (.iload_n 3, 1) := by decide +kernel
theorem dX6_other_43 : decode cX6_other 43 = .ok (.if_icmp .le 9, 3) := by decide +kernel
theorem dX6_other_46 : decode cX6_other 46 = .ok (.iload_n 2, 1) := by decide +kernel
theorem dX6_other_47 : decode cX6_other 47 = .ok (.iload_n 3, 1) := by decide +kernel
theorem dX6_other_48 : decode cX6_other 48 = .ok (.isub, 1) := by decide +kernel
theorem dX6_other_49 : decode cX6_other 49 = .ok (.goto 4, 3) := by decide +kernel
theorem dX6_other_52 : decode cX6_other 52 = .ok (.iconst (-1), 1) := by decide +kernel
theorem dX6_other_53 : decode cX6_other 53 = .ok (.ireturn, 1) := by decide +kernel
theorem dX6_other_54 : decode cX6_other 54 = .ok (.iload_n 3, 1) := by decide +kernel
theorem dX6_other_55 : decode cX6_other 55 = .ok (.iload_n 2, 1) := by decide +kernel
theorem dX6_other_56 : decode cX6_other 56 = .ok (.irem, 1) := by decide +kernel
theorem dX6_other_57 : decode cX6_other 57 = .ok (.ifCond .ne 9, 3) := by decide +kernel
theorem dX6_other_60 : decode cX6_other 60 = .ok (.iload_n 3, 1) := by decide +kernel
theorem dX6_other_61 : decode cX6_other 61 = .ok (.iload_n 2, 1) := by decide +kernel
theorem dX6_other_62 : decode cX6_other 62 = .ok (.idiv, 1) := by decide +kernel
theorem dX6_other_63 : decode cX6_other 63 = .ok (.goto 4, 3) := by decide +kernel
theorem dX6_other_66 : decode cX6_other 66 = .ok (.iconst (-1), 1) := by decide +kernel
theorem dX6_other_67 : decode cX6_other 67 = .ok (.ireturn, 1) := by decide +kernel
theorem dX6_other_68 : decode cX6_other 68 = .ok (.iload_n 2, 1) := by decide +kernel
theorem dX6_other_69 : decode cX6_other 69 = .ok (.iload_n 3, 1) := by decide +kernel
theorem dX6_other_70 : decode cX6_other 70 = .ok (.irem, 1) := by decide +kernel
theorem dX6_other_71 : decode cX6_other 71 = .ok (.ifCond .ne 9, 3) := by decide +kernel
theorem dX6_other_74 : decode cX6_other 74 = .ok (.iload_n 2, 1) := by decide +kernel
theorem dX6_other_75 : decode cX6_other 75 = .ok (.iload_n 3, 1) := by decide +kernel
theorem dX6_other_76 : decode cX6_other 76 = .ok (.idiv, 1) := by decide +kernel
theorem dX6_other_77 : decode cX6_other 77 = .ok (.goto 4, 3) := by decide +kernel
theorem dX6_other_80 : decode cX6_other 80 = .ok (.iconst (-1), 1) := by decide +kernel
theorem dX6_other_81 : decode cX6_other 81 = .ok (.ireturn, 1) := by decide +kernel
theorem dX6_signOf_0 : decode cX6_signOf 0 = .ok (.iload_n 0, 1) := by decide +kernel
theorem dX6_signOf_1 : decode cX6_signOf 1 = .ok (.ifCond .ne 8, 3) := by decide +kernel
theorem dX6_signOf_4 : decode cX6_signOf 4 = .ok (.bipush 43, 2) := by decide +kernel
theorem dX6_signOf_6 : decode cX6_signOf 6 = .ok (.goto 25, 3) := by decide +kernel
theorem dX6_signOf_9 : decode cX6_signOf 9 = .ok (.iload_n 0, 1) := by decide +kernel
theorem dX6_signOf_10 : decode cX6_signOf 10 = .ok (.iconst 1, 1) := by decide +kernel
theorem dX6_signOf_11 : decode cX6_signOf 11 = .ok (.if_icmp .ne 8, 3) := by decide +kernel
theorem dX6_signOf_14 : decode cX6_signOf 14 = .ok (.bipush 45, 2) := by decide +kernel
theorem dX6_signOf_16 : decode cX6_signOf 16 = .ok (.goto 15, 3) := by decide +kernel
theorem dX6_signOf_19 : decode cX6_signOf 19 = .ok (.iload_n 0, 1) := by decide +kernel
theorem dX6_signOf_20 : decode cX6_signOf 20 = .ok (.iconst 2, 1) := by decide +kernel
theorem dX6_signOf_21 : decode cX6_signOf 21 = .ok (.if_icmp .ne 8, 3) := by decide +kernel
theorem dX6_signOf_24 : decode cX6_signOf 24 = .ok (.bipush 42, 2) := by decide +kernel
theorem dX6_signOf_26 : decode cX6_signOf 26 = .ok (.goto 5, 3) := by decide +kernel
theorem dX6_signOf_29 : decode cX6_signOf 29 = .ok (.bipush 47, 2) := by decide +kernel
theorem dX6_signOf_31 : decode cX6_signOf 31 = .ok (.ireturn, 1) := by decide +kernel
set_option maxRecDepth 20000 in
theorem ggX6_part_X6_may : GoodIn wsX6_part wsX6_may := goodIn_r _ [6, 7, 28, 29, 30, 31, 32, 33, 34, 35, 36, 37, 38, 39, 40, 41, 42, 43, 44, 45, 46, 47] (by decide +kernel) (by decide +kernel)
set_option maxRecDepth 20000 in
theorem gX6_part_X6_may : GoodIn wsX6_part (wsV RX6 88 RX6 yX6_may wsX6_may) := goodIn_app (goodIn_of _ (by decide +kernel)) ggX6_part_X6_may
set_option maxRecDepth 20000 in
theorem ggX6_part_X6_other : GoodIn wsX6_part wsX6_other := goodIn_r _ [11] (by decide +kernel) (by decide +kernel)
set_option maxRecDepth 20000 in
theorem gX6_part_X6_other : GoodIn wsX6_part (wsV RX6 144 RX6 yX6_other wsX6_other) := goodIn_app (goodIn_of _ (by decide +kernel)) ggX6_part_X6_other
set_option maxRecDepth 20000 in
theorem ggX6_part_X6_later : GoodIn wsX6_part wsX6_later := goodIn_r _ [15, 16, 17, 18, 28, 29, 30, 31, 32, 33, 34, 35, 36, 37, 38, 39, 40, 41, 42, 43, 44, 45, 46, 47] (by decide +kernel) (by decide +kernel)
set_option maxRecDepth 20000 in
theorem gX6_part_X6_later : GoodIn wsX6_part (wsV RX6 148 RX6 yX6_later wsX6_later) := goodIn_app (goodIn_of _ (by decide +kernel)) ggX6_part_X6_later
set_option maxRecDepth 20000 in
theorem ggX6_part_X6_signOf : GoodIn wsX6_part wsX6_signOf := goodIn_r _ [21] (by decide +kernel) (by decide +kernel)
set_option maxRecDepth 20000 in
theorem gX6_part_X6_signOf : GoodIn wsX6_part (va_wsS RX6 151 yX6_signOf wsX6_signOf) := goodIn_app (goodIn_of _ (by decide +kernel)) ggX6_part_X6_signOf
set_option maxRecDepth 20000 in
theorem ggX6_part_X6_put : GoodIn wsX6_part wsX6_put := goodIn_r _ [25, 26, 27, 28, 29, 30, 31, 32, 33, 34, 35, 36, 37, 38, 39, 40, 41, 42, 43, 44, 45, 46, 47] (by decide +kernel) (by decide +kernel)
set_option maxRecDepth 20000 in
theorem gX6_part_X6_put : GoodIn wsX6_part (wsV RX6 140 RX6 yX6_put wsX6_put) := goodIn_app (goodIn_of _ (by decide +kernel)) ggX6_part_X6_put
theorem dX6_part_0 : decode cX6_part 0 = .ok (.iconst 1, 1) := by decide +kernel
theorem dX6_part_1 : decode cX6_part 1 = .ok (.istore_n 3, 1) := by decide +kernel
theorem dX6_part_2 : decode cX6_part 2 = .ok (.iload_n 3, 1) := by decide +kernel
theorem dX6_part_3 : decode cX6_part 3 = .ok (.iload_n 1, 1) := by decide +kernel
theorem dX6_part_4 : decode cX6_part 4 = .ok (.if_icmp .ge 205, 3) := by decide +kernel
theorem dX6_part_7 : decode cX6_part 7 = .ok (.iload_n 3, 1) := by decide +kernel
theorem dX6_part_8 : decode cX6_part 8 = .ok (.iload_n 1, 1) := by decide +kernel
theorem dX6_part_9 : decode cX6_part 9 = .ok (.iand, 1) := by decide +kernel
theorem dX6_part_10 : decode cX6_part 10 = .ok (.iload_n 1, 1) := by decide +kernel
theorem dX6_part_11 : decode cX6_part 11 = .ok (.ineg, 1) := by decide +kernel
theorem dX6_part_12 : decode cX6_part 12 = .ok (.iand, 1) := by decide +kernel
theorem dX6_part_13 : decode cX6_part 13 = .ok (.ifCond .eq 7, 3) := by decide +kernel
theorem dX6_part_16 : decode cX6_part 16 = .ok (.iconst 1, 1) := by decide +kernel
theorem dX6_part_17 : decode cX6_part 17 = .ok (.goto 4, 3) := by decide +kernel
theorem dX6_part_20 : decode cX6_part 20 = .ok (.iconst 0, 1) := by decide +kernel
theorem dX6_part_21 : decode cX6_part 21 = .ok (.istore 4, 2) := by decide +kernel
theorem dX6_part_23 : decode cX6_part 23 = .ok (.iconst 0, 1) := by decide +kernel
theorem dX6_part_24 : decode cX6_part 24 = .ok (.istore 5, 2) := by decide +kernel
theorem dX6_part_26 : decode cX6_part 26 = .ok (.iload 5, 2) := by decide +kernel
theorem dX6_part_28 : decode cX6_part 28 = .ok (.iconst 4, 1) := by decide +kernel
theorem dX6_part_29 : decode cX6_part 29 = .ok (.if_icmp .ge 174, 3) := by decide +kernel
theorem dX6_part_32 : decode cX6_part 32 = .ok (.iload_n 3, 1) := by decide +kernel
theorem dX6_part_33 : decode cX6_part 33 = .ok (.iload_n 1, 1) := by decide +kernel
theorem dX6_part_34 : decode cX6_part 34 = .ok (.iconst (-1), 1) := by decide +kernel
theorem dX6_part_35 : decode cX6_part 35 = .ok (.ixor, 1) := by decide +kernel
theorem dX6_part_36 : decode cX6_part 36 = .ok (.iand, 1) := by decide +kernel
theorem dX6_part_37 : decode cX6_part 37 = .ok (.ifCond .ne 166, 3) := by decide +kernel
theorem dX6_part_40 : decode cX6_part 40 = .ok (.aload_n 0, 1) := by decide +kernel
theorem dX6_part_41 : decode cX6_part 41 = .ok (.iload 5, 2) := by decide +kernel
theorem dX6_part_43 : decode cX6_part 43 = .ok (.invokevirtual 88, 3) := by decide +kernel
theorem dX6_part_46 : decode cX6_part 46 = .ok (.ifCond .eq 24, 3) := by decide +kernel
theorem dX6_part_49 : decode cX6_part 49 = .ok (.iload 4, 2) := by decide +kernel
theorem dX6_part_51 : decode cX6_part 51 = .ok (.ifCond .ne 15, 3) := by decide +kernel
theorem dX6_part_54 : decode cX6_part 54 = .ok (.iload 5, 2) := by decide +kernel
theorem dX6_part_56 : decode cX6_part 56 = .ok (.iconst 1, 1) := by decide +kernel
theorem dX6_part_57 : decode cX6_part 57 = .ok (.if_icmp .eq 9, 3) := by decide +kernel
theorem dX6_part_60 : decode cX6_part 60 = .ok (.iload 5, 2) := by decide +kernel
theorem dX6_part_62 : decode cX6_part 62 = .ok (.iconst 3, 1) := by decide +kernel
theorem dX6_part_63 : decode cX6_part 63 = .ok (.if_icmp .ne 7, 3) := by decide +kernel
theorem dX6_part_66 : decode cX6_part 66 = .ok (.iconst 1, 1) := by decide +kernel
theorem dX6_part_67 : decode cX6_part 67 = .ok (.goto 4, 3) := by decide +kernel
theorem dX6_part_70 : decode cX6_part 70 = .ok (.iconst 0, 1) := by decide +kernel
theorem dX6_part_71 : decode cX6_part 71 = .ok (.istore 6, 2) := by decide +kernel
theorem dX6_part_73 : decode cX6_part 73 = .ok (.iconst 1, 1) := by decide +kernel
theorem dX6_part_74 : decode cX6_part 74 = .ok (.istore 7, 2) := by decide +kernel
theorem dX6_part_76 : decode cX6_part 76 = .ok (.iload 7, 2) := by decide +kernel
end
section
theorem dX6_part_78 : decode cX6_part 78 = .ok (.sipush 3000, 3) := by decide +kernel
theorem dX6_part_81 : decode cX6_part 81 = .ok (.if_icmp .gt 116, 3) := by decide +kernel
theorem dX6_part_84 : decode cX6_part 84 = .ok (.iload 6, 2) := by decide +kernel
theorem dX6_part_86 : decode cX6_part 86 = .ok (.ifCond .eq 111, 3) := by decide +kernel
theorem dX6_part_89 : decode cX6_part 89 = .ok (.aload_n 0, 1) := by decide +kernel
theorem dX6_part_90 : decode cX6_part 90 = .ok (.getfield 30, 3) := by decide +kernel
theorem dX6_part_93 : decode cX6_part 93 = .ok (.sipush 3001, 3) := by decide +kernel
theorem dX6_part_96 : decode cX6_part 96 = .ok (.iload_n 3, 1) := by decide +kernel
theorem dX6_part_97 : decode cX6_part 97 = .ok (.imul, 1) := by decide +kernel
theorem dX6_part_98 : decode cX6_part 98 = .ok (.iload 7, 2) := by decide +kernel
theorem dX6_part_100 : decode cX6_part 100 = .ok (.iadd, 1) := by decide +kernel
theorem dX6_part_101 : decode cX6_part 101 = .ok (.laload, 1) := by decide +kernel
theorem dX6_part_102 : decode cX6_part 102 = .ok (.lconst 0, 1) := by decide +kernel
theorem dX6_part_103 : decode cX6_part 103 = .ok (.lcmp, 1) := by decide +kernel
theorem dX6_part_104 : decode cX6_part 104 = .ok (.ifCond .le 15, 3) := by decide +kernel
theorem dX6_part_107 : decode cX6_part 107 = .ok (.aload_n 0, 1) := by decide +kernel
theorem dX6_part_108 : decode cX6_part 108 = .ok (.iload 5, 2) := by decide +kernel
theorem dX6_part_110 : decode cX6_part 110 = .ok (.iload 7, 2) := by decide +kernel
theorem dX6_part_112 : decode cX6_part 112 = .ok (.iload_n 2, 1) := by decide +kernel
theorem dX6_part_113 : decode cX6_part 113 = .ok (.invokevirtual 144, 3) := by decide +kernel
theorem dX6_part_116 : decode cX6_part 116 = .ok (.goto 4, 3) := by decide +kernel
theorem dX6_part_119 : decode cX6_part 119 = .ok (.iconst (-1), 1) := by decide +kernel
theorem dX6_part_120 : decode cX6_part 120 = .ok (.istore 8, 2) := by decide +kernel
theorem dX6_part_122 : decode cX6_part 122 = .ok (.iload 8, 2) := by decide +kernel
theorem dX6_part_124 : decode cX6_part 124 = .ok (.ifCond .le 67, 3) := by decide +kernel
theorem dX6_part_127 : decode cX6_part 127 = .ok (.aload_n 0, 1) := by decide +kernel
theorem dX6_part_128 : decode cX6_part 128 = .ok (.getfield 30, 3) := by decide +kernel
theorem dX6_part_131 : decode cX6_part 131 = .ok (.sipush 3001, 3) := by decide +kernel
theorem dX6_part_134 : decode cX6_part 134 = .ok (.iload_n 1, 1) := by decide +kernel
theorem dX6_part_135 : decode cX6_part 135 = .ok (.iload_n 3, 1) := by decide +kernel
theorem dX6_part_136 : decode cX6_part 136 = .ok (.iconst (-1), 1) := by decide +kernel
theorem dX6_part_137 : decode cX6_part 137 = .ok (.ixor, 1) := by decide +kernel
theorem dX6_part_138 : decode cX6_part 138 = .ok (.iand, 1) := by decide +kernel
theorem dX6_part_139 : decode cX6_part 139 = .ok (.imul, 1) := by decide +kernel
theorem dX6_part_140 : decode cX6_part 140 = .ok (.iload 8, 2) := by decide +kernel
theorem dX6_part_142 : decode cX6_part 142 = .ok (.iadd, 1) := by decide +kernel
theorem dX6_part_143 : decode cX6_part 143 = .ok (.laload, 1) := by decide +kernel
theorem dX6_part_144 : decode cX6_part 144 = .ok (.lconst 0, 1) := by decide +kernel
theorem dX6_part_145 : decode cX6_part 145 = .ok (.lcmp, 1) := by decide +kernel
theorem dX6_part_146 : decode cX6_part 146 = .ok (.ifCond .le 45, 3) := by decide +kernel
theorem dX6_part_149 : decode cX6_part 149 = .ok (.aload_n 0, 1) := by decide +kernel
theorem dX6_part_150 : decode cX6_part 150 = .ok (.iconst 0, 1) := by decide +kernel
theorem dX6_part_151 : decode cX6_part 151 = .ok (.bipush 41, 2) := by decide +kernel
theorem dX6_part_153 : decode cX6_part 153 = .ok (.invokevirtual 148, 3) := by decide +kernel
theorem dX6_part_156 : decode cX6_part 156 = .ok (.aload_n 0, 1) := by decide +kernel
theorem dX6_part_157 : decode cX6_part 157 = .ok (.iload_n 1, 1) := by decide +kernel
theorem dX6_part_158 : decode cX6_part 158 = .ok (.iload_n 3, 1) := by decide +kernel
theorem dX6_part_159 : decode cX6_part 159 = .ok (.iconst (-1), 1) := by decide +kernel
theorem dX6_part_160 : decode cX6_part 160 = .ok (.ixor, 1) := by decide +kernel
theorem dX6_part_161 : decode cX6_part 161 = .ok (.iand, 1) := by decide +kernel
theorem dX6_part_162 : decode cX6_part 162 = .ok (.iload 8, 2) := by decide +kernel
theorem dX6_part_164 : decode cX6_part 164 = .ok (.invokevirtual 148, 3) := by decide +kernel
theorem dX6_part_167 : decode cX6_part 167 = .ok (.aload_n 0, 1) := by decide +kernel
theorem dX6_part_168 : decode cX6_part 168 = .ok (.iconst 0, 1) := by decide +kernel
theorem dX6_part_169 : decode cX6_part 169 = .ok (.iload 5, 2) := by decide +kernel
theorem dX6_part_171 : decode cX6_part 171 = .ok (.invokestatic 151, 3) := by decide +kernel
theorem dX6_part_174 : decode cX6_part 174 = .ok (.invokevirtual 148, 3) := by decide +kernel
theorem dX6_part_177 : decode cX6_part 177 = .ok (.aload_n 0, 1) := by decide +kernel
theorem dX6_part_178 : decode cX6_part 178 = .ok (.iload_n 3, 1) := by decide +kernel
theorem dX6_part_179 : decode cX6_part 179 = .ok (.iload 7, 2) := by decide +kernel
theorem dX6_part_181 : decode cX6_part 181 = .ok (.invokevirtual 148, 3) := by decide +kernel
theorem dX6_part_184 : decode cX6_part 184 = .ok (.aload_n 0, 1) := by decide +kernel
theorem dX6_part_185 : decode cX6_part 185 = .ok (.bipush 40, 2) := by decide +kernel
theorem dX6_part_187 : decode cX6_part 187 = .ok (.invokevirtual 140, 3) := by decide +kernel
theorem dX6_part_190 : decode cX6_part 190 = .ok (.return_, 1) := by decide +kernel
theorem dX6_part_191 : decode cX6_part 191 = .ok (.iinc 7 1, 3) := by decide +kernel
theorem dX6_part_194 : decode cX6_part 194 = .ok (.goto (-118), 3) := by decide +kernel
theorem dX6_part_197 : decode cX6_part 197 = .ok (.iinc 5 1, 3) := by decide +kernel
theorem dX6_part_200 : decode cX6_part 200 = .ok (.goto (-174), 3) := by decide +kernel
theorem dX6_part_203 : decode cX6_part 203 = .ok (.iinc 3 1, 3) := by decide +kernel
theorem dX6_part_206 : decode cX6_part 206 = .ok (.goto (-204), 3) := by decide +kernel
theorem dX6_part_209 : decode cX6_part 209 = .ok (.return_, 1) := by decide +kernel
set_option maxRecDepth 20000 in
theorem ggX6_printed_X6_later : GoodIn wsX6_printed wsX6_later := goodIn_r _ [9, 3, 2, 4, 39, 40, 41, 42, 43, 44, 45, 46, 47, 48, 49, 50, 51, 52, 53, 54, 55, 56, 57, 58] (by decide +kernel) (by decide +kernel)
set_option maxRecDepth 20000 in
theorem gX6_printed_X6_later : GoodIn wsX6_printed (wsV RX6 148 RX6 yX6_later wsX6_later) := goodIn_app (goodIn_of _ (by decide +kernel)) ggX6_printed_X6_later
set_option maxRecDepth 20000 in
theorem ggX6_printed_X6_put : GoodIn wsX6_printed wsX6_put := goodIn_r _ [13, 14, 1, 39, 40, 41, 42, 43, 44, 45, 46, 47, 48, 49, 50, 51, 52, 53, 54, 55, 56, 57, 58] (by decide +kernel) (by decide +kernel)
set_option maxRecDepth 20000 in
theorem gX6_printed_X6_put : GoodIn wsX6_printed (wsV RX6 140 RX6 yX6_put wsX6_put) := goodIn_app (goodIn_of _ (by decide +kernel)) ggX6_printed_X6_put
set_option maxRecDepth 20000 in
theorem ggX6_printed_X6_bits : GoodIn wsX6_printed wsX6_bits := goodIn_r _ [17] (by decide +kernel) (by decide +kernel)
set_option maxRecDepth 20000 in
theorem gX6_printed_X6_bits : GoodIn wsX6_printed (va_wsS RX6 99 yX6_bits wsX6_bits) := goodIn_app (goodIn_of _ (by decide +kernel)) ggX6_printed_X6_bits
set_option maxRecDepth 20000 in
theorem ggX6_printed_X6_putNumber : GoodIn wsX6_printed wsX6_putNumber := goodIn_r _ [21, 10, 11, 12, 8, 13, 14, 1, 39, 40, 41, 42, 43, 44, 45, 46, 47, 48, 49, 50, 51, 52, 53, 54, 55, 56, 57, 58] (by decide +kernel) (by decide +kernel)
set_option maxRecDepth 20000 in
theorem gX6_printed_X6_putNumber : GoodIn wsX6_printed (wsV RX6 154 RX6 yX6_putNumber wsX6_putNumber) := goodIn_app (goodIn_of _ (by decide +kernel)) ggX6_printed_X6_putNumber
set_option maxRecDepth 20000 in
theorem ggX6_printed_X6_part : GoodIn wsX6_printed wsX6_part := goodIn_r _ [25, 26, 27, 28, 29, 8, 30, 31, 32, 33, 34, 35, 5, 6, 7, 9, 3, 2, 4, 36, 37, 38, 10, 11, 12, 13, 14, 1, 39, 40, 41, 42, 43, 44, 45, 46, 47, 48, 49, 50, 51, 52, 53, 54, 55, 56, 57, 58] (by decide +kernel) (by decide +kernel)
set_option maxRecDepth 20000 in
theorem gX6_printed_X6_part : GoodIn wsX6_printed (wsV RX6 157 RX6 yX6_part wsX6_part) := goodIn_app (goodIn_of _ (by decide +kernel)) ggX6_printed_X6_part
theorem dX6_printed_0 : decode cX6_printed 0 = .ok (.aload_n 0, 1) := by decide +kernel
theorem dX6_printed_1 : decode cX6_printed 1 = .ok (.iconst 0, 1) := by decide +kernel
theorem dX6_printed_2 : decode cX6_printed 2 = .ok (.putfield 81, 3) := by decide +kernel
theorem dX6_printed_5 : decode cX6_printed 5 = .ok (.aload_n 0, 1) := by decide +kernel
theorem dX6_printed_6 : decode cX6_printed 6 = .ok (.iconst 0, 1) := by decide +kernel
theorem dX6_printed_7 : decode cX6_printed 7 = .ok (.putfield 137, 3) := by decide +kernel
theorem dX6_printed_10 : decode cX6_printed 10 = .ok (.aload_n 0, 1) := by decide +kernel
theorem dX6_printed_11 : decode cX6_printed 11 = .ok (.iload_n 1, 1) := by decide +kernel
theorem dX6_printed_12 : decode cX6_printed 12 = .ok (.iload_n 2, 1) := by decide +kernel
theorem dX6_printed_13 : decode cX6_printed 13 = .ok (.invokevirtual 148, 3) := by decide +kernel
theorem dX6_printed_16 : decode cX6_printed 16 = .ok (.aload_n 0, 1) := by decide +kernel
theorem dX6_printed_17 : decode cX6_printed 17 = .ok (.getfield 137, 3) := by decide +kernel
theorem dX6_printed_20 : decode cX6_printed 20 = .ok (.ifCond .le 74, 3) := by decide +kernel
theorem dX6_printed_23 : decode cX6_printed 23 = .ok (.aload_n 0, 1) := by decide +kernel
theorem dX6_printed_24 : decode cX6_printed 24 = .ok (.dup, 1) := by decide +kernel
theorem dX6_printed_25 : decode cX6_printed 25 = .ok (.getfield 137, 3) := by decide +kernel
theorem dX6_printed_28 : decode cX6_printed 28 = .ok (.iconst 1, 1) := by decide +kernel
theorem dX6_printed_29 : decode cX6_printed 29 = .ok (.isub, 1) := by decide +kernel
theorem dX6_printed_30 : decode cX6_printed 30 = .ok (.putfield 137, 3) := by decide +kernel
theorem dX6_printed_33 : decode cX6_printed 33 = .ok (.aload_n 0, 1) := by decide +kernel
theorem dX6_printed_34 : decode cX6_printed 34 = .ok (.getfield 40, 3) := by decide +kernel
theorem dX6_printed_37 : decode cX6_printed 37 = .ok (.aload_n 0, 1) := by decide +kernel
theorem dX6_printed_38 : decode cX6_printed 38 = .ok (.getfield 137, 3) := by decide +kernel
theorem dX6_printed_41 : decode cX6_printed 41 = .ok (.iaload, 1) := by decide +kernel
theorem dX6_printed_42 : decode cX6_printed 42 = .ok (.istore_n 3, 1) := by decide +kernel
theorem dX6_printed_43 : decode cX6_printed 43 = .ok (.aload_n 0, 1) := by decide +kernel
theorem dX6_printed_44 : decode cX6_printed 44 = .ok (.getfield 43, 3) := by decide +kernel
theorem dX6_printed_47 : decode cX6_printed 47 = .ok (.aload_n 0, 1) := by decide +kernel
theorem dX6_printed_48 : decode cX6_printed 48 = .ok (.getfield 137, 3) := by decide +kernel
theorem dX6_printed_51 : decode cX6_printed 51 = .ok (.iaload, 1) := by decide +kernel
theorem dX6_printed_52 : decode cX6_printed 52 = .ok (.istore 4, 2) := by decide +kernel
theorem dX6_printed_54 : decode cX6_printed 54 = .ok (.iload_n 3, 1) := by decide +kernel
theorem dX6_printed_55 : decode cX6_printed 55 = .ok (.ifCond .ne 12, 3) := by decide +kernel
theorem dX6_printed_58 : decode cX6_printed 58 = .ok (.aload_n 0, 1) := by decide +kernel
theorem dX6_printed_59 : decode cX6_printed 59 = .ok (.iload 4, 2) := by decide +kernel
theorem dX6_printed_61 : decode cX6_printed 61 = .ok (.invokevirtual 140, 3) := by decide +kernel
theorem dX6_printed_64 : decode cX6_printed 64 = .ok (.goto 27, 3) := by decide +kernel
theorem dX6_printed_67 : decode cX6_printed 67 = .ok (.iload_n 3, 1) := by decide +kernel
theorem dX6_printed_68 : decode cX6_printed 68 = .ok (.invokestatic 99, 3) := by decide +kernel
theorem dX6_printed_71 : decode cX6_printed 71 = .ok (.iconst 1, 1) := by decide +kernel
theorem dX6_printed_72 : decode cX6_printed 72 = .ok (.if_icmp .ne 12, 3) := by decide +kernel
theorem dX6_printed_75 : decode cX6_printed 75 = .ok (.aload_n 0, 1) := by decide +kernel
theorem dX6_printed_76 : decode cX6_printed 76 = .ok (.iload 4, 2) := by decide +kernel
theorem dX6_printed_78 : decode cX6_printed 78 = .ok (.invokevirtual 154, 3) := by decide +kernel
theorem dX6_printed_81 : decode cX6_printed 81 = .ok (.goto 10, 3) := by decide +kernel
theorem dX6_printed_84 : decode cX6_printed 84 = .ok (.aload_n 0, 1) := by decide +kernel
theorem dX6_printed_85 : decode cX6_printed 85 = .ok (.iload_n 3, 1) := by decide +kernel
theorem dX6_printed_86 : decode cX6_printed 86 = .ok (.iload 4, 2) := by decide +kernel
theorem dX6_printed_88 : decode cX6_printed 88 = .ok (.invokevirtual 157, 3) := by decide +kernel
theorem dX6_printed_91 : decode cX6_printed 91 = .ok (.goto (-75), 3) := by decide +kernel
theorem dX6_printed_94 : decode cX6_printed 94 = .ok (.aload_n 0, 1) := by decide +kernel
theorem dX6_printed_95 : decode cX6_printed 95 = .ok (.getfield 81, 3) := by decide +kernel
theorem dX6_printed_98 : decode cX6_printed 98 = .ok (.ireturn, 1) := by decide +kernel
set_option maxRecDepth 20000 in
theorem ggX6_print_X6_in : GoodIn wsX6_print wsX6_in := goodIn_r _ [5] (by decide +kernel) (by decide +kernel)
set_option maxRecDepth 20000 in
theorem gX6_print_X6_in : GoodIn wsX6_print (va_wsS RX6 57 yX6_in wsX6_in) := goodIn_app (goodIn_of _ (by decide +kernel)) ggX6_print_X6_in
set_option maxRecDepth 20000 in
theorem ggX6_print_X6_heap : GoodIn wsX6_print wsX6_heap := goodIn_r _ [9, 10, 11, 12, 13, 14, 15, 16, 17, 4, 18, 19, 20, 21, 22, 23, 24, 25, 26, 27, 28, 29, 30, 31, 32, 33, 34, 35, 36, 37, 38, 39, 40, 41, 42, 79, 80, 81, 82, 83, 84, 85, 86, 87, 88, 89, 90, 91, 92, 93, 94, 95, 96, 97, 98] (by decide +kernel) (by decide +kernel)
set_option maxRecDepth 20000 in
theorem gX6_print_X6_heap : GoodIn wsX6_print (wsV RX6 119 RX6 yX6_heap wsX6_heap) := goodIn_app (goodIn_of _ (by decide +kernel)) ggX6_print_X6_heap
set_option maxRecDepth 20000 in
theorem ggX6_print_X6_firstSet : GoodIn wsX6_print wsX6_firstSet := goodIn_r _ [46, 12, 19, 20, 21, 4, 22, 79, 80, 81, 82, 83, 84, 85, 86, 87, 88, 89, 90, 91, 92, 93, 94, 95, 96, 97, 98] (by decide +kernel) (by decide +kernel)
set_option maxRecDepth 20000 in
theorem gX6_print_X6_firstSet : GoodIn wsX6_print (wsV RX6 131 RX6 yX6_firstSet wsX6_firstSet) := goodIn_app (goodIn_of _ (by decide +kernel)) ggX6_print_X6_firstSet
set_option maxRecDepth 20000 in
theorem ggX6_print_X6_printed : GoodIn wsX6_print wsX6_printed := goodIn_r _ [50, 51, 52, 53, 54, 55, 56, 57, 4, 58, 59, 60, 61, 62, 63, 20, 21, 22, 64, 65, 66, 67, 68, 69, 70, 71, 19, 33, 34, 35, 36, 37, 72, 73, 74, 75, 76, 77, 78, 79, 80, 81, 82, 83, 84, 85, 86, 87, 88, 89, 90, 91, 92, 93, 94, 95, 96, 97, 98] (by decide +kernel) (by decide +kernel)
set_option maxRecDepth 20000 in
theorem gX6_print_X6_printed : GoodIn wsX6_print (wsV RX6 160 RX6 yX6_printed wsX6_printed) := goodIn_app (goodIn_of _ (by decide +kernel)) ggX6_print_X6_printed
theorem dX6_print_0 : decode cX6_print 0 = .ok (.iload_n 1, 1) := by decide +kernel
theorem dX6_print_1 : decode cX6_print 1 = .ok (.i2l, 1) := by decide +kernel
theorem dX6_print_2 : decode cX6_print 2 = .ok (.lconst 1, 1) := by decide +kernel
theorem dX6_print_3 : decode cX6_print 3 = .ok (.ldc2_w 70, 3) := by decide +kernel
theorem dX6_print_6 : decode cX6_print 6 = .ok (.invokestatic 57, 3) := by decide +kernel
theorem dX6_print_9 : decode cX6_print 9 = .ok (.ifCond .ne 7, 3) := by decide +kernel
theorem dX6_print_12 : decode cX6_print 12 = .ok (.sipush (-1002), 3) := by decide +kernel
theorem dX6_print_15 : decode cX6_print 15 = .ok (.ireturn, 1) := by decide +kernel
theorem dX6_print_16 : decode cX6_print 16 = .ok (.aload_n 0, 1) := by decide +kernel
theorem dX6_print_17 : decode cX6_print 17 = .ok (.invokevirtual 119, 3) := by decide +kernel
theorem dX6_print_20 : decode cX6_print 20 = .ok (.aload_n 0, 1) := by decide +kernel
theorem dX6_print_21 : decode cX6_print 21 = .ok (.iload_n 1, 1) := by decide +kernel
theorem dX6_print_22 : decode cX6_print 22 = .ok (.invokevirtual 131, 3) := by decide +kernel
theorem dX6_print_25 : decode cX6_print 25 = .ok (.istore_n 2, 1) := by decide +kernel
theorem dX6_print_26 : decode cX6_print 26 = .ok (.iload_n 2, 1) := by decide +kernel
theorem dX6_print_27 : decode cX6_print 27 = .ok (.ifCond .ge 9, 3) := by decide +kernel
theorem dX6_print_30 : decode cX6_print 30 = .ok (.sipush (-1003), 3) := by decide +kernel
theorem dX6_print_33 : decode cX6_print 33 = .ok (.goto 9, 3) := by decide +kernel
theorem dX6_print_36 : decode cX6_print 36 = .ok (.aload_n 0, 1) := by decide +kernel
theorem dX6_print_37 : decode cX6_print 37 = .ok (.iload_n 2, 1) := by decide +kernel
theorem dX6_print_38 : decode cX6_print 38 = .ok (.iload_n 1, 1) := by decide +kernel
theorem dX6_print_39 : decode cX6_print 39 = .ok (.invokevirtual 160, 3) := by decide +kernel
theorem dX6_print_42 : decode cX6_print 42 = .ok (.ireturn, 1) := by decide +kernel
set_option maxRecDepth 20000 in
theorem ggX6_printOf_X6_isSet : GoodIn wsX6_printOf wsX6_isSet := goodIn_r _ [7, 8, 9, 10, 6, 11, 79, 80, 81, 82, 83, 84, 85, 86, 87, 88, 89, 90, 91, 92, 93, 94, 95, 96, 97, 98] (by decide +kernel) (by decide +kernel)
set_option maxRecDepth 20000 in
theorem gX6_printOf_X6_isSet : GoodIn wsX6_printOf (wsV RX6 114 RX6 yX6_isSet wsX6_isSet) := goodIn_app (goodIn_of _ (by decide +kernel)) ggX6_printOf_X6_isSet
set_option maxRecDepth 20000 in
theorem ggX6_printOf_X6_in : GoodIn wsX6_printOf wsX6_in := goodIn_r _ [11] (by decide +kernel) (by decide +kernel)
set_option maxRecDepth 20000 in
theorem gX6_printOf_X6_in : GoodIn wsX6_printOf (va_wsS RX6 57 yX6_in wsX6_in) := goodIn_app (goodIn_of _ (by decide +kernel)) ggX6_printOf_X6_in
set_option maxRecDepth 20000 in
theorem ggX6_printOf_X6_heap : GoodIn wsX6_printOf wsX6_heap := goodIn_r _ [15, 16, 8, 17, 18, 19, 20, 21, 22, 6, 23, 2, 24, 25, 26, 27, 28, 29, 30, 31, 32, 33, 34, 35, 36, 37, 38, 39, 40, 41, 42, 43, 44, 45, 46, 79, 80, 81, 82, 83, 84, 85, 86, 87, 88, 89, 90, 91, 92, 93, 94, 95, 96, 97, 98] (by decide +kernel) (by decide +kernel)
set_option maxRecDepth 20000 in
theorem gX6_printOf_X6_heap : GoodIn wsX6_printOf (wsV RX6 119 RX6 yX6_heap wsX6_heap) := goodIn_app (goodIn_of _ (by decide +kernel)) ggX6_printOf_X6_heap
set_option maxRecDepth 20000 in
theorem ggX6_printOf_X6_printed : GoodIn wsX6_printOf wsX6_printed := goodIn_r _ [50, 51, 52, 53, 54, 55, 56, 57, 6, 58, 59, 60, 61, 62, 63, 24, 25, 26, 64, 65, 66, 67, 68, 69, 70, 71, 2, 37, 38, 39, 40, 41, 72, 73, 74, 75, 76, 77, 78, 79, 80, 81, 82, 83, 84, 85, 86, 87, 88, 89, 90, 91, 92, 93, 94, 95, 96, 97, 98] (by decide +kernel) (by decide +kernel)
set_option maxRecDepth 20000 in
theorem gX6_printOf_X6_printed : GoodIn wsX6_printOf (wsV RX6 160 RX6 yX6_printed wsX6_printed) := goodIn_app (goodIn_of _ (by decide +kernel)) ggX6_printOf_X6_printed
theorem dX6_printOf_0 : decode cX6_printOf 0 = .ok (.aload_n 0, 1) := by decide +kernel
theorem dX6_printOf_1 : decode cX6_printOf 1 = .ok (.iload_n 1, 1) := by decide +kernel
theorem dX6_printOf_2 : decode cX6_printOf 2 = .ok (.invokevirtual 114, 3) := by decide +kernel
theorem dX6_printOf_5 : decode cX6_printOf 5 = .ok (.ifCond .eq 15, 3) := by decide +kernel
theorem dX6_printOf_8 : decode cX6_printOf 8 = .ok (.iload_n 2, 1) := by decide +kernel
theorem dX6_printOf_9 : decode cX6_printOf 9 = .ok (.i2l, 1) := by decide +kernel
theorem dX6_printOf_10 : decode cX6_printOf 10 = .ok (.lconst 1, 1) := by decide +kernel
theorem dX6_printOf_11 : decode cX6_printOf 11 = .ok (.ldc2_w 70, 3) := by decide +kernel
theorem dX6_printOf_14 : decode cX6_printOf 14 = .ok (.invokestatic 57, 3) := by decide +kernel
theorem dX6_printOf_17 : decode cX6_printOf 17 = .ok (.ifCond .ne 7, 3) := by decide +kernel
theorem dX6_printOf_20 : decode cX6_printOf 20 = .ok (.sipush (-1002), 3) := by decide +kernel
theorem dX6_printOf_23 : decode cX6_printOf 23 = .ok (.ireturn, 1) := by decide +kernel
theorem dX6_printOf_24 : decode cX6_printOf 24 = .ok (.aload_n 0, 1) := by decide +kernel
theorem dX6_printOf_25 : decode cX6_printOf 25 = .ok (.invokevirtual 119, 3) := by decide +kernel
theorem dX6_printOf_28 : decode cX6_printOf 28 = .ok (.aload_n 0, 1) := by decide +kernel
theorem dX6_printOf_29 : decode cX6_printOf 29 = .ok (.getfield 30, 3) := by decide +kernel
theorem dX6_printOf_32 : decode cX6_printOf 32 = .ok (.sipush 3001, 3) := by decide +kernel
theorem dX6_printOf_35 : decode cX6_printOf 35 = .ok (.iload_n 1, 1) := by decide +kernel
theorem dX6_printOf_36 : decode cX6_printOf 36 = .ok (.imul, 1) := by decide +kernel
theorem dX6_printOf_37 : decode cX6_printOf 37 = .ok (.iload_n 2, 1) := by decide +kernel
theorem dX6_printOf_38 : decode cX6_printOf 38 = .ok (.iadd, 1) := by decide +kernel
theorem dX6_printOf_39 : decode cX6_printOf 39 = .ok (.laload, 1) := by decide +kernel
theorem dX6_printOf_40 : decode cX6_printOf 40 = .ok (.lconst 0, 1) := by decide +kernel
theorem dX6_printOf_41 : decode cX6_printOf 41 = .ok (.lcmp, 1) := by decide +kernel
theorem dX6_printOf_42 : decode cX6_printOf 42 = .ok (.ifCond .le 12, 3) := by decide +kernel
theorem dX6_printOf_45 : decode cX6_printOf 45 = .ok (.aload_n 0, 1) := by decide +kernel
theorem dX6_printOf_46 : decode cX6_printOf 46 = .ok (.iload_n 1, 1) := by decide +kernel
theorem dX6_printOf_47 : decode cX6_printOf 47 = .ok (.iload_n 2, 1) := by decide +kernel
theorem dX6_printOf_48 : decode cX6_printOf 48 = .ok (.invokevirtual 160, 3) := by decide +kernel
theorem dX6_printOf_51 : decode cX6_printOf 51 = .ok (.goto 6, 3) := by decide +kernel
theorem dX6_printOf_54 : decode cX6_printOf 54 = .ok (.sipush (-1003), 3) := by decide +kernel
theorem dX6_printOf_57 : decode cX6_printOf 57 = .ok (.ireturn, 1) := by decide +kernel
set_option maxRecDepth 20000 in
theorem ggX6_out_X6_in : GoodIn wsX6_out wsX6_in := goodIn_r _ [6] (by decide +kernel) (by decide +kernel)
set_option maxRecDepth 20000 in
theorem gX6_out_X6_in : GoodIn wsX6_out (va_wsS RX6 57 yX6_in wsX6_in) := goodIn_app (goodIn_of _ (by decide +kernel)) ggX6_out_X6_in
theorem dX6_out_0 : decode cX6_out 0 = .ok (.iload_n 1, 1) := by decide +kernel
theorem dX6_out_1 : decode cX6_out 1 = .ok (.i2l, 1) := by decide +kernel
theorem dX6_out_2 : decode cX6_out 2 = .ok (.lconst 0, 1) := by decide +kernel
theorem dX6_out_3 : decode cX6_out 3 = .ok (.aload_n 0, 1) := by decide +kernel
theorem dX6_out_4 : decode cX6_out 4 = .ok (.getfield 81, 3) := by decide +kernel
theorem dX6_out_7 : decode cX6_out 7 = .ok (.iconst 1, 1) := by decide +kernel
theorem dX6_out_8 : decode cX6_out 8 = .ok (.isub, 1) := by decide +kernel
theorem dX6_out_9 : decode cX6_out 9 = .ok (.i2l, 1) := by decide +kernel
theorem dX6_out_10 : decode cX6_out 10 = .ok (.invokestatic 57, 3) := by decide +kernel
theorem dX6_out_13 : decode cX6_out 13 = .ok (.ifCond .eq 12, 3) := by decide +kernel
theorem dX6_out_16 : decode cX6_out 16 = .ok (.aload_n 0, 1) := by decide +kernel
theorem dX6_out_17 : decode cX6_out 17 = .ok (.getfield 23, 3) := by decide +kernel
theorem dX6_out_20 : decode cX6_out 20 = .ok (.iload_n 1, 1) := by decide +kernel
theorem dX6_out_21 : decode cX6_out 21 = .ok (.iaload, 1) := by decide +kernel
theorem dX6_out_22 : decode cX6_out 22 = .ok (.goto 4, 3) := by decide +kernel
theorem dX6_out_25 : decode cX6_out 25 = .ok (.iconst (-1), 1) := by decide +kernel
theorem dX6_out_26 : decode cX6_out 26 = .ok (.ireturn, 1) := by decide +kernel
set_option maxRecDepth 20000 in
theorem ggX6_card_X6_in : GoodIn wsX6_card wsX6_in := goodIn_r _ [7] (by decide +kernel) (by decide +kernel)
set_option maxRecDepth 20000 in
theorem gX6_card_X6_in : GoodIn wsX6_card (va_wsS RX6 57 yX6_in wsX6_in) := goodIn_app (goodIn_of _ (by decide +kernel)) ggX6_card_X6_in
theorem dX6_card_0 : decode cX6_card 0 = .ok (.iload_n 1, 1) := by decide +kernel
theorem dX6_card_1 : decode cX6_card 1 = .ok (.i2l, 1) := by decide +kernel
theorem dX6_card_2 : decode cX6_card 2 = .ok (.lconst 1, 1) := by decide +kernel
theorem dX6_card_3 : decode cX6_card 3 = .ok (.ldc2_w 55, 3) := by decide +kernel
theorem dX6_card_6 : decode cX6_card 6 = .ok (.invokestatic 57, 3) := by decide +kernel
theorem dX6_card_9 : decode cX6_card 9 = .ok (.ifCond .ne 7, 3) := by decide +kernel
theorem dX6_card_12 : decode cX6_card 12 = .ok (.sipush (-1002), 3) := by decide +kernel
theorem dX6_card_15 : decode cX6_card 15 = .ok (.ireturn, 1) := by decide +kernel
theorem dX6_card_16 : decode cX6_card 16 = .ok (.aload_n 0, 1) := by decide +kernel
theorem dX6_card_17 : decode cX6_card 17 = .ok (.getfield 78, 3) := by decide +kernel
theorem dX6_card_20 : decode cX6_card 20 = .ok (.bipush 10, 2) := by decide +kernel
theorem dX6_card_22 : decode cX6_card 22 = .ok (.if_icmp .ne 7, 3) := by decide +kernel
theorem dX6_card_25 : decode cX6_card 25 = .ok (.sipush (-1004), 3) := by decide +kernel
theorem dX6_card_28 : decode cX6_card 28 = .ok (.ireturn, 1) := by decide +kernel
theorem dX6_card_29 : decode cX6_card 29 = .ok (.aload_n 0, 1) := by decide +kernel
theorem dX6_card_30 : decode cX6_card 30 = .ok (.getfield 20, 3) := by decide +kernel
theorem dX6_card_33 : decode cX6_card 33 = .ok (.aload_n 0, 1) := by decide +kernel
theorem dX6_card_34 : decode cX6_card 34 = .ok (.getfield 78, 3) := by decide +kernel
theorem dX6_card_37 : decode cX6_card 37 = .ok (.iload_n 1, 1) := by decide +kernel
theorem dX6_card_38 : decode cX6_card 38 = .ok (.iastore, 1) := by decide +kernel
theorem dX6_card_39 : decode cX6_card 39 = .ok (.aload_n 0, 1) := by decide +kernel
theorem dX6_card_40 : decode cX6_card 40 = .ok (.dup, 1) := by decide +kernel
theorem dX6_card_41 : decode cX6_card 41 = .ok (.getfield 78, 3) := by decide +kernel
theorem dX6_card_44 : decode cX6_card 44 = .ok (.iconst 1, 1) := by decide +kernel
theorem dX6_card_45 : decode cX6_card 45 = .ok (.iadd, 1) := by decide +kernel
theorem dX6_card_46 : decode cX6_card 46 = .ok (.putfield 78, 3) := by decide +kernel
theorem dX6_card_49 : decode cX6_card 49 = .ok (.aload_n 0, 1) := by decide +kernel
theorem dX6_card_50 : decode cX6_card 50 = .ok (.getfield 78, 3) := by decide +kernel
theorem dX6_card_53 : decode cX6_card 53 = .ok (.iconst 1, 1) := by decide +kernel
theorem dX6_card_54 : decode cX6_card 54 = .ok (.isub, 1) := by decide +kernel
theorem dX6_card_55 : decode cX6_card 55 = .ok (.ireturn, 1) := by decide +kernel
theorem dX6_empty_0 : decode cX6_empty 0 = .ok (.aload_n 0, 1) := by decide +kernel
theorem dX6_empty_1 : decode cX6_empty 1 = .ok (.getfield 78, 3) := by decide +kernel
theorem dX6_empty_4 : decode cX6_empty 4 = .ok (.istore_n 1, 1) := by decide +kernel
theorem dX6_empty_5 : decode cX6_empty 5 = .ok (.aload_n 0, 1) := by decide +kernel
theorem dX6_empty_6 : decode cX6_empty 6 = .ok (.iconst 0, 1) := by decide +kernel
theorem dX6_empty_7 : decode cX6_empty 7 = .ok (.putfield 78, 3) := by decide +kernel
theorem dX6_empty_10 : decode cX6_empty 10 = .ok (.iload_n 1, 1) := by decide +kernel
theorem dX6_empty_11 : decode cX6_empty 11 = .ok (.ireturn, 1) := by decide +kernel
set_option maxRecDepth 20000 in
theorem ggX6_drawn_X6_fill : GoodIn wsX6_drawn wsX6_fill := goodIn_r _ [9, 1, 10, 3, 11, 12, 13, 8, 14, 15, 16, 17, 18, 19, 20, 21, 22, 23, 24, 25, 26, 27, 28, 29, 30, 31, 32, 33, 34, 35, 36, 37, 38, 39, 40, 41, 42, 43, 44, 45, 46, 47, 48, 49, 50, 51, 52, 53, 54] (by decide +kernel) (by decide +kernel)
set_option maxRecDepth 20000 in
theorem gX6_drawn_X6_fill : GoodIn wsX6_drawn (wsV RX6 107 RX6 yX6_fill wsX6_fill) := goodIn_app (goodIn_of _ (by decide +kernel)) ggX6_drawn_X6_fill
theorem dX6_drawn_0 : decode cX6_drawn 0 = .ok (.aload_n 0, 1) := by decide +kernel
theorem dX6_drawn_1 : decode cX6_drawn 1 = .ok (.iconst 0, 1) := by decide +kernel
theorem dX6_drawn_2 : decode cX6_drawn 2 = .ok (.putfield 96, 3) := by decide +kernel
theorem dX6_drawn_5 : decode cX6_drawn 5 = .ok (.iconst 0, 1) := by decide +kernel
theorem dX6_drawn_6 : decode cX6_drawn 6 = .ok (.istore_n 2, 1) := by decide +kernel
theorem dX6_drawn_7 : decode cX6_drawn 7 = .ok (.iload_n 2, 1) := by decide +kernel
theorem dX6_drawn_8 : decode cX6_drawn 8 = .ok (.aload_n 0, 1) := by decide +kernel
theorem dX6_drawn_9 : decode cX6_drawn 9 = .ok (.getfield 78, 3) := by decide +kernel
theorem dX6_drawn_12 : decode cX6_drawn 12 = .ok (.if_icmp .ge 43, 3) := by decide +kernel
theorem dX6_drawn_15 : decode cX6_drawn 15 = .ok (.iload_n 1, 1) := by decide +kernel
theorem dX6_drawn_16 : decode cX6_drawn 16 = .ok (.iload_n 2, 1) := by decide +kernel
theorem dX6_drawn_17 : decode cX6_drawn 17 = .ok (.ishr, 1) := by decide +kernel
theorem dX6_drawn_18 : decode cX6_drawn 18 = .ok (.iconst 1, 1) := by decide +kernel
theorem dX6_drawn_19 : decode cX6_drawn 19 = .ok (.iand, 1) := by decide +kernel
theorem dX6_drawn_20 : decode cX6_drawn 20 = .ok (.iconst 1, 1) := by decide +kernel
theorem dX6_drawn_21 : decode cX6_drawn 21 = .ok (.if_icmp .ne 28, 3) := by decide +kernel
theorem dX6_drawn_24 : decode cX6_drawn 24 = .ok (.aload_n 0, 1) := by decide +kernel
theorem dX6_drawn_25 : decode cX6_drawn 25 = .ok (.getfield 26, 3) := by decide +kernel
theorem dX6_drawn_28 : decode cX6_drawn 28 = .ok (.aload_n 0, 1) := by decide +kernel
theorem dX6_drawn_29 : decode cX6_drawn 29 = .ok (.getfield 96, 3) := by decide +kernel
theorem dX6_drawn_32 : decode cX6_drawn 32 = .ok (.aload_n 0, 1) := by decide +kernel
theorem dX6_drawn_33 : decode cX6_drawn 33 = .ok (.getfield 20, 3) := by decide +kernel
theorem dX6_drawn_36 : decode cX6_drawn 36 = .ok (.iload_n 2, 1) := by decide +kernel
theorem dX6_drawn_37 : decode cX6_drawn 37 = .ok (.iaload, 1) := by decide +kernel
theorem dX6_drawn_38 : decode cX6_drawn 38 = .ok (.iastore, 1) := by decide +kernel
theorem dX6_drawn_39 : decode cX6_drawn 39 = .ok (.aload_n 0, 1) := by decide +kernel
theorem dX6_drawn_40 : decode cX6_drawn 40 = .ok (.dup, 1) := by decide +kernel
theorem dX6_drawn_41 : decode cX6_drawn 41 = .ok (.getfield 96, 3) := by decide +kernel
theorem dX6_drawn_44 : decode cX6_drawn 44 = .ok (.iconst 1, 1) := by decide +kernel
theorem dX6_drawn_45 : decode cX6_drawn 45 = .ok (.iadd, 1) := by decide +kernel
theorem dX6_drawn_46 : decode cX6_drawn 46 = .ok (.putfield 96, 3) := by decide +kernel
theorem dX6_drawn_49 : decode cX6_drawn 49 = .ok (.iinc 2 1, 3) := by decide +kernel
theorem dX6_drawn_52 : decode cX6_drawn 52 = .ok (.goto (-45), 3) := by decide +kernel
theorem dX6_drawn_55 : decode cX6_drawn 55 = .ok (.aload_n 0, 1) := by decide +kernel
theorem dX6_drawn_56 : decode cX6_drawn 56 = .ok (.invokevirtual 107, 3) := by decide +kernel
theorem dX6_drawn_59 : decode cX6_drawn 59 = .ok (.return_, 1) := by decide +kernel
theorem dX6_common_0 : decode cX6_common 0 = .ok (.iload_n 0, 1) := by decide +kernel
theorem dX6_common_1 : decode cX6_common 1 = .ok (.istore_n 2, 1) := by decide +kernel
theorem dX6_common_2 : decode cX6_common 2 = .ok (.iload_n 1, 1) := by decide +kernel
theorem dX6_common_3 : decode cX6_common 3 = .ok (.istore_n 3, 1) := by decide +kernel
theorem dX6_common_4 : decode cX6_common 4 = .ok (.iload_n 3, 1) := by decide +kernel
theorem dX6_common_5 : decode cX6_common 5 = .ok (.ifCond .eq 16, 3) := by decide +kernel
theorem dX6_common_8 : decode cX6_common 8 = .ok (.iload_n 2, 1) := by decide +kernel
theorem dX6_common_9 : decode cX6_common 9 = .ok (.iload_n 3, 1) := by decide +kernel
theorem dX6_common_10 : decode cX6_common 10 = .ok (.irem, 1) := by decide +kernel
theorem dX6_common_11 : decode cX6_common 11 = .ok (.istore 4, 2) := by decide +kernel
theorem dX6_common_13 : decode cX6_common 13 = .ok (.iload_n 3, 1) := by decide +kernel
theorem dX6_common_14 : decode cX6_common 14 = .ok (.istore_n 2, 1) := by decide +kernel
theorem dX6_common_15 : decode cX6_common 15 = .ok (.iload 4, 2) := by decide +kernel
theorem dX6_common_17 : decode cX6_common 17 = .ok (.istore_n 3, 1) := by decide +kernel
theorem dX6_common_18 : decode cX6_common 18 = .ok (.goto (-14), 3) := by decide +kernel
theorem dX6_common_21 : decode cX6_common 21 = .ok (.iload_n 2, 1) := by decide +kernel
theorem dX6_common_22 : decode cX6_common 22 = .ok (.ireturn, 1) := by decide +kernel
set_option maxRecDepth 20000 in
theorem ggX6_draws_X6_in : GoodIn wsX6_draws wsX6_in := goodIn_r _ [8] (by decide +kernel) (by decide +kernel)
set_option maxRecDepth 20000 in
theorem gX6_draws_X6_in : GoodIn wsX6_draws (va_wsS RX6 57 yX6_in wsX6_in) := goodIn_app (goodIn_of _ (by decide +kernel)) ggX6_draws_X6_in
set_option maxRecDepth 20000 in
theorem ggX6_draws_X6_bits : GoodIn wsX6_draws wsX6_bits := goodIn_r _ [11] (by decide +kernel) (by decide +kernel)
set_option maxRecDepth 20000 in
theorem gX6_draws_X6_bits : GoodIn wsX6_draws (va_wsS RX6 99 yX6_bits wsX6_bits) := goodIn_app (goodIn_of _ (by decide +kernel)) ggX6_draws_X6_bits
set_option maxRecDepth 20000 in
theorem ggX6_draws_X6_drawn : GoodIn wsX6_draws wsX6_drawn := goodIn_r _ [15, 16, 4, 17, 18, 19, 20, 21, 7, 22, 23, 24, 9, 10, 11, 25, 26, 27, 28, 29, 30, 31, 32, 33, 34, 35, 36, 37, 38, 39, 40, 41, 42, 43, 44, 56, 57, 58, 59, 60, 61, 62, 63, 64, 65, 66, 67, 68, 69, 70, 71, 72, 73, 74, 75] (by decide +kernel) (by decide +kernel)
set_option maxRecDepth 20000 in
theorem gX6_draws_X6_drawn : GoodIn wsX6_draws (wsV RX6 166 RX6 yX6_drawn wsX6_drawn) := goodIn_app (goodIn_of _ (by decide +kernel)) ggX6_draws_X6_drawn
set_option maxRecDepth 20000 in
theorem ggX6_draws_X6_isReached : GoodIn wsX6_draws wsX6_isReached := goodIn_r _ [48, 49, 50, 51, 7, 52, 16, 23, 56, 57, 58, 59, 60, 61, 62, 63, 64, 65, 66, 67, 68, 69, 70, 71, 72, 73, 74, 75] (by decide +kernel) (by decide +kernel)
set_option maxRecDepth 20000 in
theorem gX6_draws_X6_isReached : GoodIn wsX6_draws (wsV RX6 122 RX6 yX6_isReached wsX6_isReached) := goodIn_app (goodIn_of _ (by decide +kernel)) ggX6_draws_X6_isReached
set_option maxRecDepth 20000 in
theorem ggX6_draws_X6_common : GoodIn wsX6_draws wsX6_common := goodIn_r _ [55] (by decide +kernel) (by decide +kernel)
set_option maxRecDepth 20000 in
theorem gX6_draws_X6_common : GoodIn wsX6_draws (va_wsS RX6 169 yX6_common wsX6_common) := goodIn_app (goodIn_of _ (by decide +kernel)) ggX6_draws_X6_common
theorem dX6_draws_0 : decode cX6_draws 0 = .ok (.iload_n 1, 1) := by decide +kernel
theorem dX6_draws_1 : decode cX6_draws 1 = .ok (.i2l, 1) := by decide +kernel
theorem dX6_draws_2 : decode cX6_draws 2 = .ok (.lconst 1, 1) := by decide +kernel
theorem dX6_draws_3 : decode cX6_draws 3 = .ok (.ldc2_w 164, 3) := by decide +kernel
theorem dX6_draws_6 : decode cX6_draws 6 = .ok (.invokestatic 57, 3) := by decide +kernel
theorem dX6_draws_9 : decode cX6_draws 9 = .ok (.ifCond .eq 27, 3) := by decide +kernel
theorem dX6_draws_12 : decode cX6_draws 12 = .ok (.iload_n 2, 1) := by decide +kernel
theorem dX6_draws_13 : decode cX6_draws 13 = .ok (.i2l, 1) := by decide +kernel
theorem dX6_draws_14 : decode cX6_draws 14 = .ok (.lconst 1, 1) := by decide +kernel
theorem dX6_draws_15 : decode cX6_draws 15 = .ok (.ldc2_w 70, 3) := by decide +kernel
theorem dX6_draws_18 : decode cX6_draws 18 = .ok (.invokestatic 57, 3) := by decide +kernel
theorem dX6_draws_21 : decode cX6_draws 21 = .ok (.ifCond .eq 15, 3) := by decide +kernel
theorem dX6_draws_24 : decode cX6_draws 24 = .ok (.iload_n 3, 1) := by decide +kernel
theorem dX6_draws_25 : decode cX6_draws 25 = .ok (.i2l, 1) := by decide +kernel
theorem dX6_draws_26 : decode cX6_draws 26 = .ok (.lconst 0, 1) := by decide +kernel
theorem dX6_draws_27 : decode cX6_draws 27 = .ok (.ldc2_w 129, 3) := by decide +kernel
theorem dX6_draws_30 : decode cX6_draws 30 = .ok (.invokestatic 57, 3) := by decide +kernel
theorem dX6_draws_33 : decode cX6_draws 33 = .ok (.ifCond .ne 7, 3) := by decide +kernel
theorem dX6_draws_36 : decode cX6_draws 36 = .ok (.sipush (-1002), 3) := by decide +kernel
theorem dX6_draws_39 : decode cX6_draws 39 = .ok (.ireturn, 1) := by decide +kernel
theorem dX6_draws_40 : decode cX6_draws 40 = .ok (.iconst 0, 1) := by decide +kernel
theorem dX6_draws_41 : decode cX6_draws 41 = .ok (.istore 4, 2) := by decide +kernel
theorem dX6_draws_43 : decode cX6_draws 43 = .ok (.iconst 0, 1) := by decide +kernel
theorem dX6_draws_44 : decode cX6_draws 44 = .ok (.istore 5, 2) := by decide +kernel
theorem dX6_draws_46 : decode cX6_draws 46 = .ok (.iconst 0, 1) := by decide +kernel
theorem dX6_draws_47 : decode cX6_draws 47 = .ok (.istore 6, 2) := by decide +kernel
theorem dX6_draws_49 : decode cX6_draws 49 = .ok (.iload 6, 2) := by decide +kernel
theorem dX6_draws_51 : decode cX6_draws 51 = .ok (.iconst 1, 1) := by decide +kernel
theorem dX6_draws_52 : decode cX6_draws 52 = .ok (.aload_n 0, 1) := by decide +kernel
theorem dX6_draws_53 : decode cX6_draws 53 = .ok (.getfield 78, 3) := by decide +kernel
theorem dX6_draws_56 : decode cX6_draws 56 = .ok (.ishl, 1) := by decide +kernel
theorem dX6_draws_57 : decode cX6_draws 57 = .ok (.if_icmp .ge 49, 3) := by decide +kernel
theorem dX6_draws_60 : decode cX6_draws 60 = .ok (.iload 6, 2) := by decide +kernel
theorem dX6_draws_62 : decode cX6_draws 62 = .ok (.invokestatic 99, 3) := by decide +kernel
theorem dX6_draws_65 : decode cX6_draws 65 = .ok (.iload_n 1, 1) := by decide +kernel
theorem dX6_draws_66 : decode cX6_draws 66 = .ok (.if_icmp .ne 34, 3) := by decide +kernel
theorem dX6_draws_69 : decode cX6_draws 69 = .ok (.iinc 4 1, 3) := by decide +kernel
theorem dX6_draws_72 : decode cX6_draws 72 = .ok (.iload_n 3, 1) := by decide +kernel
theorem dX6_draws_73 : decode cX6_draws 73 = .ok (.ifCond .le 27, 3) := by decide +kernel
theorem dX6_draws_76 : decode cX6_draws 76 = .ok (.aload_n 0, 1) := by decide +kernel
theorem dX6_draws_77 : decode cX6_draws 77 = .ok (.iload 6, 2) := by decide +kernel
theorem dX6_draws_79 : decode cX6_draws 79 = .ok (.invokevirtual 166, 3) := by decide +kernel
theorem dX6_draws_82 : decode cX6_draws 82 = .ok (.iload 5, 2) := by decide +kernel
theorem dX6_draws_84 : decode cX6_draws 84 = .ok (.aload_n 0, 1) := by decide +kernel
theorem dX6_draws_85 : decode cX6_draws 85 = .ok (.iload_n 2, 1) := by decide +kernel
theorem dX6_draws_86 : decode cX6_draws 86 = .ok (.invokevirtual 122, 3) := by decide +kernel
theorem dX6_draws_89 : decode cX6_draws 89 = .ok (.ifCond .eq 7, 3) := by decide +kernel
theorem dX6_draws_92 : decode cX6_draws 92 = .ok (.iconst 1, 1) := by decide +kernel
theorem dX6_draws_93 : decode cX6_draws 93 = .ok (.goto 4, 3) := by decide +kernel
theorem dX6_draws_96 : decode cX6_draws 96 = .ok (.iconst 0, 1) := by decide +kernel
theorem dX6_draws_97 : decode cX6_draws 97 = .ok (.iadd, 1) := by decide +kernel
theorem dX6_draws_98 : decode cX6_draws 98 = .ok (.istore 5, 2) := by decide +kernel
theorem dX6_draws_100 : decode cX6_draws 100 = .ok (.iinc 6 1, 3) := by decide +kernel
theorem dX6_draws_103 : decode cX6_draws 103 = .ok (.goto (-54), 3) := by decide +kernel
theorem dX6_draws_106 : decode cX6_draws 106 = .ok (.iload_n 3, 1) := by decide +kernel
theorem dX6_draws_107 : decode cX6_draws 107 = .ok (.iconst 2, 1) := by decide +kernel
theorem dX6_draws_108 : decode cX6_draws 108 = .ok (.if_icmp .ge 15, 3) := by decide +kernel
theorem dX6_draws_111 : decode cX6_draws 111 = .ok (.iload_n 3, 1) := by decide +kernel
theorem dX6_draws_112 : decode cX6_draws 112 = .ok (.ifCond .ne 8, 3) := by decide +kernel
theorem dX6_draws_115 : decode cX6_draws 115 = .ok (.iload 4, 2) := by decide +kernel
theorem dX6_draws_117 : decode cX6_draws 117 = .ok (.goto 5, 3) := by decide +kernel
theorem dX6_draws_120 : decode cX6_draws 120 = .ok (.iload 5, 2) := by decide +kernel
theorem dX6_draws_122 : decode cX6_draws 122 = .ok (.ireturn, 1) := by decide +kernel
theorem dX6_draws_123 : decode cX6_draws 123 = .ok (.iload 5, 2) := by decide +kernel
theorem dX6_draws_125 : decode cX6_draws 125 = .ok (.iload 4, 2) := by decide +kernel
theorem dX6_draws_127 : decode cX6_draws 127 = .ok (.invokestatic 169, 3) := by decide +kernel
theorem dX6_draws_130 : decode cX6_draws 130 = .ok (.istore 6, 2) := by decide +kernel
theorem dX6_draws_132 : decode cX6_draws 132 = .ok (.iload 4, 2) := by decide +kernel
theorem dX6_draws_134 : decode cX6_draws 134 = .ok (.ifCond .ne 9, 3) := by decide +kernel
theorem dX6_draws_137 : decode cX6_draws 137 = .ok (.iload_n 3, 1) := by decide +kernel
theorem dX6_draws_138 : decode cX6_draws 138 = .ok (.iconst 2, 1) := by decide +kernel
theorem dX6_draws_139 : decode cX6_draws 139 = .ok (.isub, 1) := by decide +kernel
theorem dX6_draws_140 : decode cX6_draws 140 = .ok (.goto 21, 3) := by decide +kernel
theorem dX6_draws_143 : decode cX6_draws 143 = .ok (.iload_n 3, 1) := by decide +kernel
theorem dX6_draws_144 : decode cX6_draws 144 = .ok (.iconst 2, 1) := by decide +kernel
theorem dX6_draws_145 : decode cX6_draws 145 = .ok (.if_icmp .ne 11, 3) := by decide +kernel
theorem dX6_draws_148 : decode cX6_draws 148 = .ok (.iload 5, 2) := by decide +kernel
theorem dX6_draws_150 : decode cX6_draws 150 = .ok (.iload 6, 2) := by decide +kernel
theorem dX6_draws_152 : decode cX6_draws 152 = .ok (.idiv, 1) := by decide +kernel
theorem dX6_draws_153 : decode cX6_draws 153 = .ok (.goto 8, 3) := by decide +kernel
theorem dX6_draws_156 : decode cX6_draws 156 = .ok (.iload 4, 2) := by decide +kernel
theorem dX6_draws_158 : decode cX6_draws 158 = .ok (.iload 6, 2) := by decide +kernel
theorem dX6_draws_160 : decode cX6_draws 160 = .ok (.idiv, 1) := by decide +kernel
theorem dX6_draws_161 : decode cX6_draws 161 = .ok (.ireturn, 1) := by decide +kernel
set_option maxRecDepth 20000 in
theorem ggX6_most_X6_in : GoodIn wsX6_most wsX6_in := goodIn_r _ [7] (by decide +kernel) (by decide +kernel)
set_option maxRecDepth 20000 in
theorem gX6_most_X6_in : GoodIn wsX6_most (va_wsS RX6 57 yX6_in wsX6_in) := goodIn_app (goodIn_of _ (by decide +kernel)) ggX6_most_X6_in
set_option maxRecDepth 20000 in
theorem ggX6_most_X6_bits : GoodIn wsX6_most wsX6_bits := goodIn_r _ [10] (by decide +kernel) (by decide +kernel)
set_option maxRecDepth 20000 in
theorem gX6_most_X6_bits : GoodIn wsX6_most (va_wsS RX6 99 yX6_bits wsX6_bits) := goodIn_app (goodIn_of _ (by decide +kernel)) ggX6_most_X6_bits
set_option maxRecDepth 20000 in
theorem ggX6_most_X6_drawn : GoodIn wsX6_most wsX6_drawn := goodIn_r _ [14, 15, 3, 16, 17, 18, 19, 20, 6, 21, 22, 23, 8, 9, 10, 24, 25, 26, 27, 28, 29, 30, 31, 32, 33, 34, 35, 36, 37, 38, 39, 40, 41, 42, 43, 52, 53, 54, 55, 56, 57, 58, 59, 60, 61, 62, 63, 64, 65, 66, 67, 68, 69, 70, 71] (by decide +kernel) (by decide +kernel)
set_option maxRecDepth 20000 in
theorem gX6_most_X6_drawn : GoodIn wsX6_most (wsV RX6 166 RX6 yX6_drawn wsX6_drawn) := goodIn_app (goodIn_of _ (by decide +kernel)) ggX6_most_X6_drawn
set_option maxRecDepth 20000 in
theorem ggX6_most_X6_isReached : GoodIn wsX6_most wsX6_isReached := goodIn_r _ [47, 48, 49, 50, 6, 51, 15, 22, 52, 53, 54, 55, 56, 57, 58, 59, 60, 61, 62, 63, 64, 65, 66, 67, 68, 69, 70, 71] (by decide +kernel) (by decide +kernel)
set_option maxRecDepth 20000 in
theorem gX6_most_X6_isReached : GoodIn wsX6_most (wsV RX6 122 RX6 yX6_isReached wsX6_isReached) := goodIn_app (goodIn_of _ (by decide +kernel)) ggX6_most_X6_isReached
theorem dX6_most_0 : decode cX6_most 0 = .ok (.iload_n 1, 1) := by decide +kernel
theorem dX6_most_1 : decode cX6_most 1 = .ok (.i2l, 1) := by decide +kernel
theorem dX6_most_2 : decode cX6_most 2 = .ok (.lconst 1, 1) := by decide +kernel
theorem dX6_most_3 : decode cX6_most 3 = .ok (.ldc2_w 164, 3) := by decide +kernel
theorem dX6_most_6 : decode cX6_most 6 = .ok (.invokestatic 57, 3) := by decide +kernel
theorem dX6_most_9 : decode cX6_most 9 = .ok (.ifCond .eq 13, 3) := by decide +kernel
theorem dX6_most_12 : decode cX6_most 12 = .ok (.iload_n 2, 1) := by decide +kernel
theorem dX6_most_13 : decode cX6_most 13 = .ok (.i2l, 1) := by decide +kernel
theorem dX6_most_14 : decode cX6_most 14 = .ok (.lconst 0, 1) := by decide +kernel
theorem dX6_most_15 : decode cX6_most 15 = .ok (.lconst 1, 1) := by decide +kernel
theorem dX6_most_16 : decode cX6_most 16 = .ok (.invokestatic 57, 3) := by decide +kernel
theorem dX6_most_19 : decode cX6_most 19 = .ok (.ifCond .ne 7, 3) := by decide +kernel
theorem dX6_most_22 : decode cX6_most 22 = .ok (.sipush (-1002), 3) := by decide +kernel
theorem dX6_most_25 : decode cX6_most 25 = .ok (.ireturn, 1) := by decide +kernel
theorem dX6_most_26 : decode cX6_most 26 = .ok (.iconst 0, 1) := by decide +kernel
theorem dX6_most_27 : decode cX6_most 27 = .ok (.istore_n 3, 1) := by decide +kernel
theorem dX6_most_28 : decode cX6_most 28 = .ok (.iload_n 3, 1) := by decide +kernel
theorem dX6_most_29 : decode cX6_most 29 = .ok (.bipush 101, 2) := by decide +kernel
theorem dX6_most_31 : decode cX6_most 31 = .ok (.if_icmp .ge 16, 3) := by decide +kernel
theorem dX6_most_34 : decode cX6_most 34 = .ok (.aload_n 0, 1) := by decide +kernel
theorem dX6_most_35 : decode cX6_most 35 = .ok (.getfield 46, 3) := by decide +kernel
theorem dX6_most_38 : decode cX6_most 38 = .ok (.iload_n 3, 1) := by decide +kernel
theorem dX6_most_39 : decode cX6_most 39 = .ok (.iconst 0, 1) := by decide +kernel
theorem dX6_most_40 : decode cX6_most 40 = .ok (.iastore, 1) := by decide +kernel
theorem dX6_most_41 : decode cX6_most 41 = .ok (.iinc 3 1, 3) := by decide +kernel
theorem dX6_most_44 : decode cX6_most 44 = .ok (.goto (-16), 3) := by decide +kernel
theorem dX6_most_47 : decode cX6_most 47 = .ok (.iconst 0, 1) := by decide +kernel
theorem dX6_most_48 : decode cX6_most 48 = .ok (.istore_n 3, 1) := by decide +kernel
theorem dX6_most_49 : decode cX6_most 49 = .ok (.iload_n 3, 1) := by decide +kernel
theorem dX6_most_50 : decode cX6_most 50 = .ok (.iconst 1, 1) := by decide +kernel
theorem dX6_most_51 : decode cX6_most 51 = .ok (.aload_n 0, 1) := by decide +kernel
theorem dX6_most_52 : decode cX6_most 52 = .ok (.getfield 78, 3) := by decide +kernel
theorem dX6_most_55 : decode cX6_most 55 = .ok (.ishl, 1) := by decide +kernel
theorem dX6_most_56 : decode cX6_most 56 = .ok (.if_icmp .ge 62, 3) := by decide +kernel
theorem dX6_most_59 : decode cX6_most 59 = .ok (.iload_n 3, 1) := by decide +kernel
theorem dX6_most_60 : decode cX6_most 60 = .ok (.invokestatic 99, 3) := by decide +kernel
theorem dX6_most_63 : decode cX6_most 63 = .ok (.iload_n 1, 1) := by decide +kernel
theorem dX6_most_64 : decode cX6_most 64 = .ok (.if_icmp .ne 48, 3) := by decide +kernel
theorem dX6_most_67 : decode cX6_most 67 = .ok (.aload_n 0, 1) := by decide +kernel
theorem dX6_most_68 : decode cX6_most 68 = .ok (.iload_n 3, 1) := by decide +kernel
theorem dX6_most_69 : decode cX6_most 69 = .ok (.invokevirtual 166, 3) := by decide +kernel
theorem dX6_most_72 : decode cX6_most 72 = .ok (.iconst 1, 1) := by decide +kernel
theorem dX6_most_73 : decode cX6_most 73 = .ok (.istore 4, 2) := by decide +kernel
theorem dX6_most_75 : decode cX6_most 75 = .ok (.iload 4, 2) := by decide +kernel
theorem dX6_most_77 : decode cX6_most 77 = .ok (.bipush 101, 2) := by decide +kernel
theorem dX6_most_79 : decode cX6_most 79 = .ok (.if_icmp .ge 33, 3) := by decide +kernel
theorem dX6_most_82 : decode cX6_most 82 = .ok (.aload_n 0, 1) := by decide +kernel
theorem dX6_most_83 : decode cX6_most 83 = .ok (.getfield 46, 3) := by decide +kernel
theorem dX6_most_86 : decode cX6_most 86 = .ok (.iload 4, 2) := by decide +kernel
theorem dX6_most_88 : decode cX6_most 88 = .ok (.dup2, 1) := by decide +kernel
theorem dX6_most_89 : decode cX6_most 89 = .ok (.iaload, 1) := by decide +kernel
theorem dX6_most_90 : decode cX6_most 90 = .ok (.aload_n 0, 1) := by decide +kernel
theorem dX6_most_91 : decode cX6_most 91 = .ok (.iload 4, 2) := by decide +kernel
theorem dX6_most_93 : decode cX6_most 93 = .ok (.invokevirtual 122, 3) := by decide +kernel
theorem dX6_most_96 : decode cX6_most 96 = .ok (.ifCond .eq 7, 3) := by decide +kernel
theorem dX6_most_99 : decode cX6_most 99 = .ok (.iconst 1, 1) := by decide +kernel
theorem dX6_most_100 : decode cX6_most 100 = .ok (.goto 4, 3) := by decide +kernel
theorem dX6_most_103 : decode cX6_most 103 = .ok (.iconst 0, 1) := by decide +kernel
theorem dX6_most_104 : decode cX6_most 104 = .ok (.iadd, 1) := by decide +kernel
theorem dX6_most_105 : decode cX6_most 105 = .ok (.iastore, 1) := by decide +kernel
theorem dX6_most_106 : decode cX6_most 106 = .ok (.iinc 4 1, 3) := by decide +kernel
theorem dX6_most_109 : decode cX6_most 109 = .ok (.goto (-34), 3) := by decide +kernel
theorem dX6_most_112 : decode cX6_most 112 = .ok (.iinc 3 1, 3) := by decide +kernel
theorem dX6_most_115 : decode cX6_most 115 = .ok (.goto (-66), 3) := by decide +kernel
theorem dX6_most_118 : decode cX6_most 118 = .ok (.iconst 1, 1) := by decide +kernel
theorem dX6_most_119 : decode cX6_most 119 = .ok (.istore_n 3, 1) := by decide +kernel
theorem dX6_most_120 : decode cX6_most 120 = .ok (.iconst 2, 1) := by decide +kernel
theorem dX6_most_121 : decode cX6_most 121 = .ok (.istore 4, 2) := by decide +kernel
theorem dX6_most_123 : decode cX6_most 123 = .ok (.iload 4, 2) := by decide +kernel
theorem dX6_most_125 : decode cX6_most 125 = .ok (.bipush 101, 2) := by decide +kernel
theorem dX6_most_127 : decode cX6_most 127 = .ok (.if_icmp .ge 32, 3) := by decide +kernel
theorem dX6_most_130 : decode cX6_most 130 = .ok (.aload_n 0, 1) := by decide +kernel
theorem dX6_most_131 : decode cX6_most 131 = .ok (.getfield 46, 3) := by decide +kernel
theorem dX6_most_134 : decode cX6_most 134 = .ok (.iload 4, 2) := by decide +kernel
theorem dX6_most_136 : decode cX6_most 136 = .ok (.iaload, 1) := by decide +kernel
theorem dX6_most_137 : decode cX6_most 137 = .ok (.aload_n 0, 1) := by decide +kernel
theorem dX6_most_138 : decode cX6_most 138 = .ok (.getfield 46, 3) := by decide +kernel
theorem dX6_most_141 : decode cX6_most 141 = .ok (.iload_n 3, 1) := by decide +kernel
theorem dX6_most_142 : decode cX6_most 142 = .ok (.iaload, 1) := by decide +kernel
theorem dX6_most_143 : decode cX6_most 143 = .ok (.if_icmp .le 8, 3) := by decide +kernel
theorem dX6_most_146 : decode cX6_most 146 = .ok (.iload 4, 2) := by decide +kernel
theorem dX6_most_148 : decode cX6_most 148 = .ok (.goto 4, 3) := by decide +kernel
theorem dX6_most_151 : decode cX6_most 151 = .ok (.iload_n 3, 1) := by decide +kernel
theorem dX6_most_152 : decode cX6_most 152 = .ok (.istore_n 3, 1) := by decide +kernel
theorem dX6_most_153 : decode cX6_most 153 = .ok (.iinc 4 1, 3) := by decide +kernel
theorem dX6_most_156 : decode cX6_most 156 = .ok (.goto (-33), 3) := by decide +kernel
theorem dX6_most_159 : decode cX6_most 159 = .ok (.iload_n 2, 1) := by decide +kernel
theorem dX6_most_160 : decode cX6_most 160 = .ok (.ifCond .ne 7, 3) := by decide +kernel
theorem dX6_most_163 : decode cX6_most 163 = .ok (.iload_n 3, 1) := by decide +kernel
theorem dX6_most_164 : decode cX6_most 164 = .ok (.goto 9, 3) := by decide +kernel
theorem dX6_most_167 : decode cX6_most 167 = .ok (.aload_n 0, 1) := by decide +kernel
theorem dX6_most_168 : decode cX6_most 168 = .ok (.getfield 46, 3) := by decide +kernel
theorem dX6_most_171 : decode cX6_most 171 = .ok (.iload_n 3, 1) := by decide +kernel
theorem dX6_most_172 : decode cX6_most 172 = .ok (.iaload, 1) := by decide +kernel
theorem dX6_most_173 : decode cX6_most 173 = .ok (.ireturn, 1) := by decide +kernel
set_option maxRecDepth 20000 in
theorem ggX6_spans_X6_fill : GoodIn wsX6_spans wsX6_fill := goodIn_r _ [5, 6, 7, 8, 9, 10, 11, 4, 12, 13, 14, 15, 16, 17, 18, 19, 20, 21, 22, 23, 24, 25, 26, 27, 28, 29, 30, 31, 32, 41, 42, 43, 44, 45, 46, 47, 48, 49, 50, 51, 52, 53, 54, 55, 56, 57, 58, 59, 60] (by decide +kernel) (by decide +kernel)
set_option maxRecDepth 20000 in
theorem gX6_spans_X6_fill : GoodIn wsX6_spans (wsV RX6 107 RX6 yX6_fill wsX6_fill) := goodIn_app (goodIn_of _ (by decide +kernel)) ggX6_spans_X6_fill
set_option maxRecDepth 20000 in
theorem ggX6_spans_X6_isReached : GoodIn wsX6_spans wsX6_isReached := goodIn_r _ [36, 37, 38, 39, 4, 40, 6, 7, 41, 42, 43, 44, 45, 46, 47, 48, 49, 50, 51, 52, 53, 54, 55, 56, 57, 58, 59, 60] (by decide +kernel) (by decide +kernel)
set_option maxRecDepth 20000 in
theorem gX6_spans_X6_isReached : GoodIn wsX6_spans (wsV RX6 122 RX6 yX6_isReached wsX6_isReached) := goodIn_app (goodIn_of _ (by decide +kernel)) ggX6_spans_X6_isReached
theorem dX6_spans_0 : decode cX6_spans 0 = .ok (.aload_n 0, 1) := by decide +kernel
theorem dX6_spans_1 : decode cX6_spans 1 = .ok (.invokevirtual 107, 3) := by decide +kernel
theorem dX6_spans_4 : decode cX6_spans 4 = .ok (.iconst 1, 1) := by decide +kernel
theorem dX6_spans_5 : decode cX6_spans 5 = .ok (.istore_n 2, 1) := by decide +kernel
theorem dX6_spans_6 : decode cX6_spans 6 = .ok (.iconst 1, 1) := by decide +kernel
theorem dX6_spans_7 : decode cX6_spans 7 = .ok (.istore_n 3, 1) := by decide +kernel
theorem dX6_spans_8 : decode cX6_spans 8 = .ok (.iload_n 3, 1) := by decide +kernel
theorem dX6_spans_9 : decode cX6_spans 9 = .ok (.iload_n 1, 1) := by decide +kernel
theorem dX6_spans_10 : decode cX6_spans 10 = .ok (.if_icmp .gt 19, 3) := by decide +kernel
theorem dX6_spans_13 : decode cX6_spans 13 = .ok (.iload_n 2, 1) := by decide +kernel
theorem dX6_spans_14 : decode cX6_spans 14 = .ok (.ifCond .eq 15, 3) := by decide +kernel
theorem dX6_spans_17 : decode cX6_spans 17 = .ok (.aload_n 0, 1) := by decide +kernel
theorem dX6_spans_18 : decode cX6_spans 18 = .ok (.iload_n 3, 1) := by decide +kernel
theorem dX6_spans_19 : decode cX6_spans 19 = .ok (.invokevirtual 122, 3) := by decide +kernel
theorem dX6_spans_22 : decode cX6_spans 22 = .ok (.istore_n 2, 1) := by decide +kernel
theorem dX6_spans_23 : decode cX6_spans 23 = .ok (.iinc 3 1, 3) := by decide +kernel
theorem dX6_spans_26 : decode cX6_spans 26 = .ok (.goto (-18), 3) := by decide +kernel
theorem dX6_spans_29 : decode cX6_spans 29 = .ok (.iload_n 2, 1) := by decide +kernel
theorem dX6_spans_30 : decode cX6_spans 30 = .ok (.ireturn, 1) := by decide +kernel
set_option maxRecDepth 20000 in
theorem ggX6_span_X6_in : GoodIn wsX6_span wsX6_in := goodIn_r _ [8] (by decide +kernel) (by decide +kernel)
set_option maxRecDepth 20000 in
theorem gX6_span_X6_in : GoodIn wsX6_span (va_wsS RX6 57 yX6_in wsX6_in) := goodIn_app (goodIn_of _ (by decide +kernel)) ggX6_span_X6_in
set_option maxRecDepth 20000 in
theorem ggX6_span_X6_spans : GoodIn wsX6_span wsX6_spans := goodIn_r _ [12, 13, 14, 15, 7, 16, 3, 17, 4, 18, 19, 20, 21, 22, 23, 24, 25, 26, 27, 28, 29, 30, 31, 32, 33, 34, 35, 36, 37, 38, 39, 40, 41, 42, 43, 44, 45, 46, 47, 48, 49, 50, 51, 52, 53, 54, 55, 56, 57, 58, 59, 60, 61, 62, 63, 64, 65, 66, 67, 68, 69] (by decide +kernel) (by decide +kernel)
set_option maxRecDepth 20000 in
theorem gX6_span_X6_spans : GoodIn wsX6_span (wsV RX6 172 RX6 yX6_spans wsX6_spans) := goodIn_app (goodIn_of _ (by decide +kernel)) ggX6_span_X6_spans
theorem dX6_span_0 : decode cX6_span 0 = .ok (.iload_n 1, 1) := by decide +kernel
theorem dX6_span_1 : decode cX6_span 1 = .ok (.i2l, 1) := by decide +kernel
theorem dX6_span_2 : decode cX6_span 2 = .ok (.lconst 1, 1) := by decide +kernel
theorem dX6_span_3 : decode cX6_span 3 = .ok (.ldc2_w 129, 3) := by decide +kernel
theorem dX6_span_6 : decode cX6_span 6 = .ok (.invokestatic 57, 3) := by decide +kernel
theorem dX6_span_9 : decode cX6_span 9 = .ok (.ifCond .eq 28, 3) := by decide +kernel
theorem dX6_span_12 : decode cX6_span 12 = .ok (.iload_n 2, 1) := by decide +kernel
theorem dX6_span_13 : decode cX6_span 13 = .ok (.i2l, 1) := by decide +kernel
theorem dX6_span_14 : decode cX6_span 14 = .ok (.lconst 1, 1) := by decide +kernel
theorem dX6_span_15 : decode cX6_span 15 = .ok (.ldc2_w 55, 3) := by decide +kernel
theorem dX6_span_18 : decode cX6_span 18 = .ok (.invokestatic 57, 3) := by decide +kernel
theorem dX6_span_21 : decode cX6_span 21 = .ok (.ifCond .eq 16, 3) := by decide +kernel
theorem dX6_span_24 : decode cX6_span 24 = .ok (.iload_n 3, 1) := by decide +kernel
theorem dX6_span_25 : decode cX6_span 25 = .ok (.i2l, 1) := by decide +kernel
theorem dX6_span_26 : decode cX6_span 26 = .ok (.lconst 0, 1) := by decide +kernel
theorem dX6_span_27 : decode cX6_span 27 = .ok (.iload_n 1, 1) := by decide +kernel
theorem dX6_span_28 : decode cX6_span 28 = .ok (.iconst 1, 1) := by decide +kernel
theorem dX6_span_29 : decode cX6_span 29 = .ok (.isub, 1) := by decide +kernel
theorem dX6_span_30 : decode cX6_span 30 = .ok (.i2l, 1) := by decide +kernel
theorem dX6_span_31 : decode cX6_span 31 = .ok (.invokestatic 57, 3) := by decide +kernel
theorem dX6_span_34 : decode cX6_span 34 = .ok (.ifCond .ne 7, 3) := by decide +kernel
theorem dX6_span_37 : decode cX6_span 37 = .ok (.sipush (-1002), 3) := by decide +kernel
theorem dX6_span_40 : decode cX6_span 40 = .ok (.ireturn, 1) := by decide +kernel
theorem dX6_span_41 : decode cX6_span 41 = .ok (.aload_n 0, 1) := by decide +kernel
theorem dX6_span_42 : decode cX6_span 42 = .ok (.iload_n 1, 1) := by decide +kernel
theorem dX6_span_43 : decode cX6_span 43 = .ok (.putfield 96, 3) := by decide +kernel
theorem dX6_span_46 : decode cX6_span 46 = .ok (.iconst 1, 1) := by decide +kernel
theorem dX6_span_47 : decode cX6_span 47 = .ok (.istore 4, 2) := by decide +kernel
theorem dX6_span_49 : decode cX6_span 49 = .ok (.iload 4, 2) := by decide +kernel
theorem dX6_span_51 : decode cX6_span 51 = .ok (.bipush 12, 2) := by decide +kernel
theorem dX6_span_53 : decode cX6_span 53 = .ok (.if_icmp .gt 106, 3) := by decide +kernel
theorem dX6_span_56 : decode cX6_span 56 = .ok (.iload_n 1, 1) := by decide +kernel
theorem dX6_span_57 : decode cX6_span 57 = .ok (.iconst 1, 1) := by decide +kernel
theorem dX6_span_58 : decode cX6_span 58 = .ok (.if_icmp .le 10, 3) := by decide +kernel
theorem dX6_span_61 : decode cX6_span 61 = .ok (.iload 4, 2) := by decide +kernel
theorem dX6_span_63 : decode cX6_span 63 = .ok (.iconst 1, 1) := by decide +kernel
theorem dX6_span_64 : decode cX6_span 64 = .ok (.iadd, 1) := by decide +kernel
theorem dX6_span_65 : decode cX6_span 65 = .ok (.goto 5, 3) := by decide +kernel
theorem dX6_span_68 : decode cX6_span 68 = .ok (.bipush 12, 2) := by decide +kernel
theorem dX6_span_70 : decode cX6_span 70 = .ok (.istore 5, 2) := by decide +kernel
theorem dX6_span_72 : decode cX6_span 72 = .ok (.iload 5, 2) := by decide +kernel
theorem dX6_span_74 : decode cX6_span 74 = .ok (.bipush 12, 2) := by decide +kernel
theorem dX6_span_76 : decode cX6_span 76 = .ok (.if_icmp .gt 77, 3) := by decide +kernel
theorem dX6_span_79 : decode cX6_span 79 = .ok (.iload_n 1, 1) := by decide +kernel
theorem dX6_span_80 : decode cX6_span 80 = .ok (.iconst 2, 1) := by decide +kernel
theorem dX6_span_81 : decode cX6_span 81 = .ok (.if_icmp .le 10, 3) := by decide +kernel
theorem dX6_span_84 : decode cX6_span 84 = .ok (.iload 5, 2) := by decide +kernel
theorem dX6_span_86 : decode cX6_span 86 = .ok (.iconst 1, 1) := by decide +kernel
theorem dX6_span_87 : decode cX6_span 87 = .ok (.iadd, 1) := by decide +kernel
theorem dX6_span_88 : decode cX6_span 88 = .ok (.goto 5, 3) := by decide +kernel
theorem dX6_span_91 : decode cX6_span 91 = .ok (.bipush 12, 2) := by decide +kernel
theorem dX6_span_93 : decode cX6_span 93 = .ok (.istore 6, 2) := by decide +kernel
theorem dX6_span_95 : decode cX6_span 95 = .ok (.iload 6, 2) := by decide +kernel
theorem dX6_span_97 : decode cX6_span 97 = .ok (.bipush 12, 2) := by decide +kernel
theorem dX6_span_99 : decode cX6_span 99 = .ok (.if_icmp .gt 48, 3) := by decide +kernel
theorem dX6_span_102 : decode cX6_span 102 = .ok (.aload_n 0, 1) := by decide +kernel
theorem dX6_span_103 : decode cX6_span 103 = .ok (.getfield 26, 3) := by decide +kernel
theorem dX6_span_106 : decode cX6_span 106 = .ok (.iconst 0, 1) := by decide +kernel
theorem dX6_span_107 : decode cX6_span 107 = .ok (.iload 4, 2) := by decide +kernel
theorem dX6_span_109 : decode cX6_span 109 = .ok (.iastore, 1) := by decide +kernel
theorem dX6_span_110 : decode cX6_span 110 = .ok (.aload_n 0, 1) := by decide +kernel
theorem dX6_span_111 : decode cX6_span 111 = .ok (.getfield 26, 3) := by decide +kernel
theorem dX6_span_114 : decode cX6_span 114 = .ok (.iconst 1, 1) := by decide +kernel
theorem dX6_span_115 : decode cX6_span 115 = .ok (.iload 5, 2) := by decide +kernel
theorem dX6_span_117 : decode cX6_span 117 = .ok (.iastore, 1) := by decide +kernel
theorem dX6_span_118 : decode cX6_span 118 = .ok (.aload_n 0, 1) := by decide +kernel
theorem dX6_span_119 : decode cX6_span 119 = .ok (.getfield 26, 3) := by decide +kernel
theorem dX6_span_122 : decode cX6_span 122 = .ok (.iconst 2, 1) := by decide +kernel
theorem dX6_span_123 : decode cX6_span 123 = .ok (.iload 6, 2) := by decide +kernel
theorem dX6_span_125 : decode cX6_span 125 = .ok (.iastore, 1) := by decide +kernel
theorem dX6_span_126 : decode cX6_span 126 = .ok (.aload_n 0, 1) := by decide +kernel
theorem dX6_span_127 : decode cX6_span 127 = .ok (.iload_n 2, 1) := by decide +kernel
theorem dX6_span_128 : decode cX6_span 128 = .ok (.invokevirtual 172, 3) := by decide +kernel
theorem dX6_span_131 : decode cX6_span 131 = .ok (.ifCond .eq 10, 3) := by decide +kernel
theorem dX6_span_134 : decode cX6_span 134 = .ok (.aload_n 0, 1) := by decide +kernel
theorem dX6_span_135 : decode cX6_span 135 = .ok (.getfield 26, 3) := by decide +kernel
theorem dX6_span_138 : decode cX6_span 138 = .ok (.iload_n 3, 1) := by decide +kernel
theorem dX6_span_139 : decode cX6_span 139 = .ok (.iaload, 1) := by decide +kernel
theorem dX6_span_140 : decode cX6_span 140 = .ok (.ireturn, 1) := by decide +kernel
theorem dX6_span_141 : decode cX6_span 141 = .ok (.iinc 6 1, 3) := by decide +kernel
theorem dX6_span_144 : decode cX6_span 144 = .ok (.goto (-49), 3) := by decide +kernel
theorem dX6_span_147 : decode cX6_span 147 = .ok (.iinc 5 1, 3) := by decide +kernel
theorem dX6_span_150 : decode cX6_span 150 = .ok (.goto (-78), 3) := by decide +kernel
theorem dX6_span_153 : decode cX6_span 153 = .ok (.iinc 4 1, 3) := by decide +kernel
theorem dX6_span_156 : decode cX6_span 156 = .ok (.goto (-107), 3) := by decide +kernel
theorem dX6_span_159 : decode cX6_span 159 = .ok (.iconst (-1), 1) := by decide +kernel
theorem dX6_span_160 : decode cX6_span 160 = .ok (.ireturn, 1) := by decide +kernel
theorem dX6_root_0 : decode cX6_root 0 = .ok (.iconst 0, 1) := by decide +kernel
theorem dX6_root_1 : decode cX6_root 1 = .ok (.istore_n 1, 1) := by decide +kernel
theorem dX6_root_2 : decode cX6_root 2 = .ok (.iload_n 1, 1) := by decide +kernel
theorem dX6_root_3 : decode cX6_root 3 = .ok (.iconst 1, 1) := by decide +kernel
theorem dX6_root_4 : decode cX6_root 4 = .ok (.iadd, 1) := by decide +kernel
theorem dX6_root_5 : decode cX6_root 5 = .ok (.iload_n 1, 1) := by decide +kernel
theorem dX6_root_6 : decode cX6_root 6 = .ok (.iconst 1, 1) := by decide +kernel
theorem dX6_root_7 : decode cX6_root 7 = .ok (.iadd, 1) := by decide +kernel
theorem dX6_root_8 : decode cX6_root 8 = .ok (.imul, 1) := by decide +kernel
theorem dX6_root_9 : decode cX6_root 9 = .ok (.iload_n 0, 1) := by decide +kernel
theorem dX6_root_10 : decode cX6_root 10 = .ok (.if_icmp .gt 9, 3) := by decide +kernel
theorem dX6_root_13 : decode cX6_root 13 = .ok (.iinc 1 1, 3) := by decide +kernel
theorem dX6_root_16 : decode cX6_root 16 = .ok (.goto (-14), 3) := by decide +kernel
theorem dX6_root_19 : decode cX6_root 19 = .ok (.iload_n 1, 1) := by decide +kernel
theorem dX6_root_20 : decode cX6_root 20 = .ok (.ireturn, 1) := by decide +kernel
set_option maxRecDepth 20000 in
theorem ggX6_signed_X6_root : GoodIn wsX6_signed wsX6_root := goodIn_r _ [4] (by decide +kernel) (by decide +kernel)
set_option maxRecDepth 20000 in
theorem gX6_signed_X6_root : GoodIn wsX6_signed (va_wsS RX6 175 yX6_root wsX6_root) := goodIn_app (goodIn_of _ (by decide +kernel)) ggX6_signed_X6_root
theorem dX6_signed_0 : decode cX6_signed 0 = .ok (.iload_n 0, 1) := by decide +kernel
theorem dX6_signed_1 : decode cX6_signed 1 = .ok (.ifCond .ne 8, 3) := by decide +kernel
theorem dX6_signed_4 : decode cX6_signed 4 = .ok (.iload_n 1, 1) := by decide +kernel
theorem dX6_signed_5 : decode cX6_signed 5 = .ok (.invokestatic 175, 3) := by decide +kernel
theorem dX6_signed_8 : decode cX6_signed 8 = .ok (.ireturn, 1) := by decide +kernel
theorem dX6_signed_9 : decode cX6_signed 9 = .ok (.iload_n 0, 1) := by decide +kernel
theorem dX6_signed_10 : decode cX6_signed 10 = .ok (.iconst 1, 1) := by decide +kernel
theorem dX6_signed_11 : decode cX6_signed 11 = .ok (.if_icmp .ne 40, 3) := by decide +kernel
theorem dX6_signed_14 : decode cX6_signed 14 = .ok (.iconst 1, 1) := by decide +kernel
theorem dX6_signed_15 : decode cX6_signed 15 = .ok (.istore_n 2, 1) := by decide +kernel
theorem dX6_signed_16 : decode cX6_signed 16 = .ok (.iconst 2, 1) := by decide +kernel
theorem dX6_signed_17 : decode cX6_signed 17 = .ok (.istore_n 3, 1) := by decide +kernel
theorem dX6_signed_18 : decode cX6_signed 18 = .ok (.iload_n 3, 1) := by decide +kernel
theorem dX6_signed_19 : decode cX6_signed 19 = .ok (.iload_n 1, 1) := by decide +kernel
theorem dX6_signed_20 : decode cX6_signed 20 = .ok (.if_icmp .gt 19, 3) := by decide +kernel
theorem dX6_signed_23 : decode cX6_signed 23 = .ok (.iload_n 1, 1) := by decide +kernel
theorem dX6_signed_24 : decode cX6_signed 24 = .ok (.bipush 7, 2) := by decide +kernel
theorem dX6_signed_26 : decode cX6_signed 26 = .ok (.if_icmp .gt 13, 3) := by decide +kernel
theorem dX6_signed_29 : decode cX6_signed 29 = .ok (.iload_n 2, 1) := by decide +kernel
theorem dX6_signed_30 : decode cX6_signed 30 = .ok (.iload_n 3, 1) := by decide +kernel
theorem dX6_signed_31 : decode cX6_signed 31 = .ok (.imul, 1) := by decide +kernel
theorem dX6_signed_32 : decode cX6_signed 32 = .ok (.istore_n 2, 1) := by decide +kernel
theorem dX6_signed_33 : decode cX6_signed 33 = .ok (.iinc 3 1, 3) := by decide +kernel
theorem dX6_signed_36 : decode cX6_signed 36 = .ok (.goto (-18), 3) := by decide +kernel
theorem dX6_signed_39 : decode cX6_signed 39 = .ok (.iload_n 1, 1) := by decide +kernel
theorem dX6_signed_40 : decode cX6_signed 40 = .ok (.bipush 7, 2) := by decide +kernel
theorem dX6_signed_42 : decode cX6_signed 42 = .ok (.if_icmp .gt 7, 3) := by decide +kernel
theorem dX6_signed_45 : decode cX6_signed 45 = .ok (.iload_n 2, 1) := by decide +kernel
theorem dX6_signed_46 : decode cX6_signed 46 = .ok (.goto 4, 3) := by decide +kernel
theorem dX6_signed_49 : decode cX6_signed 49 = .ok (.iconst (-1), 1) := by decide +kernel
theorem dX6_signed_50 : decode cX6_signed 50 = .ok (.ireturn, 1) := by decide +kernel
theorem dX6_signed_51 : decode cX6_signed 51 = .ok (.iload_n 0, 1) := by decide +kernel
theorem dX6_signed_52 : decode cX6_signed 52 = .ok (.iconst 2, 1) := by decide +kernel
theorem dX6_signed_53 : decode cX6_signed 53 = .ok (.if_icmp .ne 21, 3) := by decide +kernel
theorem dX6_signed_56 : decode cX6_signed 56 = .ok (.iload_n 1, 1) := by decide +kernel
theorem dX6_signed_57 : decode cX6_signed 57 = .ok (.bipush 70, 2) := by decide +kernel
theorem dX6_signed_59 : decode cX6_signed 59 = .ok (.if_icmp .gt 13, 3) := by decide +kernel
theorem dX6_signed_62 : decode cX6_signed 62 = .ok (.iload_n 1, 1) := by decide +kernel
theorem dX6_signed_63 : decode cX6_signed 63 = .ok (.iload_n 1, 1) := by decide +kernel
theorem dX6_signed_64 : decode cX6_signed 64 = .ok (.iconst 1, 1) := by decide +kernel
theorem dX6_signed_65 : decode cX6_signed 65 = .ok (.iadd, 1) := by decide +kernel
theorem dX6_signed_66 : decode cX6_signed 66 = .ok (.imul, 1) := by decide +kernel
theorem dX6_signed_67 : decode cX6_signed 67 = .ok (.iconst 2, 1) := by decide +kernel
theorem dX6_signed_68 : decode cX6_signed 68 = .ok (.idiv, 1) := by decide +kernel
theorem dX6_signed_69 : decode cX6_signed 69 = .ok (.goto 4, 3) := by decide +kernel
theorem dX6_signed_72 : decode cX6_signed 72 = .ok (.iconst (-1), 1) := by decide +kernel
theorem dX6_signed_73 : decode cX6_signed 73 = .ok (.ireturn, 1) := by decide +kernel
theorem dX6_signed_74 : decode cX6_signed 74 = .ok (.iload_n 1, 1) := by decide +kernel
theorem dX6_signed_75 : decode cX6_signed 75 = .ok (.iconst 1, 1) := by decide +kernel
theorem dX6_signed_76 : decode cX6_signed 76 = .ok (.isub, 1) := by decide +kernel
theorem dX6_signed_77 : decode cX6_signed 77 = .ok (.ireturn, 1) := by decide +kernel
set_option maxRecDepth 20000 in
theorem ggX6_signs_X6_in : GoodIn wsX6_signs wsX6_in := goodIn_r _ [8] (by decide +kernel) (by decide +kernel)
set_option maxRecDepth 20000 in
theorem gX6_signs_X6_in : GoodIn wsX6_signs (va_wsS RX6 57 yX6_in wsX6_in) := goodIn_app (goodIn_of _ (by decide +kernel)) ggX6_signs_X6_in
set_option maxRecDepth 20000 in
theorem ggX6_signs_X6_signed : GoodIn wsX6_signs wsX6_signed := goodIn_r _ [11, 12, 13, 7, 14] (by decide +kernel) (by decide +kernel)
set_option maxRecDepth 20000 in
theorem gX6_signs_X6_signed : GoodIn wsX6_signs (va_wsS RX6 180 yX6_signed wsX6_signed) := goodIn_app (goodIn_of _ (by decide +kernel)) ggX6_signs_X6_signed
theorem dX6_signs_0 : decode cX6_signs 0 = .ok (.iload_n 1, 1) := by decide +kernel
theorem dX6_signs_1 : decode cX6_signs 1 = .ok (.i2l, 1) := by decide +kernel
theorem dX6_signs_2 : decode cX6_signs 2 = .ok (.lconst 1, 1) := by decide +kernel
theorem dX6_signs_3 : decode cX6_signs 3 = .ok (.ldc2_w 55, 3) := by decide +kernel
theorem dX6_signs_6 : decode cX6_signs 6 = .ok (.invokestatic 57, 3) := by decide +kernel
theorem dX6_signs_9 : decode cX6_signs 9 = .ok (.ifCond .eq 15, 3) := by decide +kernel
theorem dX6_signs_12 : decode cX6_signs 12 = .ok (.iload_n 2, 1) := by decide +kernel
theorem dX6_signs_13 : decode cX6_signs 13 = .ok (.i2l, 1) := by decide +kernel
theorem dX6_signs_14 : decode cX6_signs 14 = .ok (.lconst 0, 1) := by decide +kernel
theorem dX6_signs_15 : decode cX6_signs 15 = .ok (.ldc2_w 178, 3) := by decide +kernel
theorem dX6_signs_18 : decode cX6_signs 18 = .ok (.invokestatic 57, 3) := by decide +kernel
theorem dX6_signs_21 : decode cX6_signs 21 = .ok (.ifCond .ne 7, 3) := by decide +kernel
theorem dX6_signs_24 : decode cX6_signs 24 = .ok (.sipush (-1002), 3) := by decide +kernel
theorem dX6_signs_27 : decode cX6_signs 27 = .ok (.ireturn, 1) := by decide +kernel
theorem dX6_signs_28 : decode cX6_signs 28 = .ok (.iconst 0, 1) := by decide +kernel
theorem dX6_signs_29 : decode cX6_signs 29 = .ok (.istore_n 3, 1) := by decide +kernel
theorem dX6_signs_30 : decode cX6_signs 30 = .ok (.iload_n 3, 1) := by decide +kernel
theorem dX6_signs_31 : decode cX6_signs 31 = .ok (.sipush 5040, 3) := by decide +kernel
theorem dX6_signs_34 : decode cX6_signs 34 = .ok (.if_icmp .gt 16, 3) := by decide +kernel
theorem dX6_signs_37 : decode cX6_signs 37 = .ok (.aload_n 0, 1) := by decide +kernel
theorem dX6_signs_38 : decode cX6_signs 38 = .ok (.getfield 49, 3) := by decide +kernel
theorem dX6_signs_41 : decode cX6_signs 41 = .ok (.iload_n 3, 1) := by decide +kernel
theorem dX6_signs_42 : decode cX6_signs 42 = .ok (.iconst (-1), 1) := by decide +kernel
theorem dX6_signs_43 : decode cX6_signs 43 = .ok (.iastore, 1) := by decide +kernel
theorem dX6_signs_44 : decode cX6_signs 44 = .ok (.iinc 3 1, 3) := by decide +kernel
theorem dX6_signs_47 : decode cX6_signs 47 = .ok (.goto (-17), 3) := by decide +kernel
theorem dX6_signs_50 : decode cX6_signs 50 = .ok (.aload_n 0, 1) := by decide +kernel
theorem dX6_signs_51 : decode cX6_signs 51 = .ok (.getfield 49, 3) := by decide +kernel
theorem dX6_signs_54 : decode cX6_signs 54 = .ok (.iload_n 1, 1) := by decide +kernel
theorem dX6_signs_55 : decode cX6_signs 55 = .ok (.iconst 0, 1) := by decide +kernel
theorem dX6_signs_56 : decode cX6_signs 56 = .ok (.iastore, 1) := by decide +kernel
theorem dX6_signs_57 : decode cX6_signs 57 = .ok (.aload_n 0, 1) := by decide +kernel
theorem dX6_signs_58 : decode cX6_signs 58 = .ok (.getfield 52, 3) := by decide +kernel
theorem dX6_signs_61 : decode cX6_signs 61 = .ok (.iconst 0, 1) := by decide +kernel
theorem dX6_signs_62 : decode cX6_signs 62 = .ok (.iload_n 1, 1) := by decide +kernel
theorem dX6_signs_63 : decode cX6_signs 63 = .ok (.iastore, 1) := by decide +kernel
theorem dX6_signs_64 : decode cX6_signs 64 = .ok (.iconst 1, 1) := by decide +kernel
theorem dX6_signs_65 : decode cX6_signs 65 = .ok (.istore_n 3, 1) := by decide +kernel
theorem dX6_signs_66 : decode cX6_signs 66 = .ok (.iconst 0, 1) := by decide +kernel
theorem dX6_signs_67 : decode cX6_signs 67 = .ok (.istore 4, 2) := by decide +kernel
theorem dX6_signs_69 : decode cX6_signs 69 = .ok (.iload 4, 2) := by decide +kernel
theorem dX6_signs_71 : decode cX6_signs 71 = .ok (.iload_n 3, 1) := by decide +kernel
theorem dX6_signs_72 : decode cX6_signs 72 = .ok (.if_icmp .ge 92, 3) := by decide +kernel
theorem dX6_signs_75 : decode cX6_signs 75 = .ok (.aload_n 0, 1) := by decide +kernel
theorem dX6_signs_76 : decode cX6_signs 76 = .ok (.getfield 52, 3) := by decide +kernel
theorem dX6_signs_79 : decode cX6_signs 79 = .ok (.iload 4, 2) := by decide +kernel
theorem dX6_signs_81 : decode cX6_signs 81 = .ok (.iaload, 1) := by decide +kernel
theorem dX6_signs_82 : decode cX6_signs 82 = .ok (.istore 5, 2) := by decide +kernel
theorem dX6_signs_84 : decode cX6_signs 84 = .ok (.iconst 0, 1) := by decide +kernel
theorem dX6_signs_85 : decode cX6_signs 85 = .ok (.istore 6, 2) := by decide +kernel
theorem dX6_signs_87 : decode cX6_signs 87 = .ok (.iload 6, 2) := by decide +kernel
theorem dX6_signs_89 : decode cX6_signs 89 = .ok (.iconst 4, 1) := by decide +kernel
theorem dX6_signs_90 : decode cX6_signs 90 = .ok (.if_icmp .ge 68, 3) := by decide +kernel
theorem dX6_signs_93 : decode cX6_signs 93 = .ok (.iload 6, 2) := by decide +kernel
theorem dX6_signs_95 : decode cX6_signs 95 = .ok (.iload 5, 2) := by decide +kernel
theorem dX6_signs_97 : decode cX6_signs 97 = .ok (.invokestatic 180, 3) := by decide +kernel
theorem dX6_signs_100 : decode cX6_signs 100 = .ok (.istore 7, 2) := by decide +kernel
theorem dX6_signs_102 : decode cX6_signs 102 = .ok (.iload 7, 2) := by decide +kernel
theorem dX6_signs_104 : decode cX6_signs 104 = .ok (.ifCond .lt 48, 3) := by decide +kernel
theorem dX6_signs_107 : decode cX6_signs 107 = .ok (.iload 7, 2) := by decide +kernel
theorem dX6_signs_109 : decode cX6_signs 109 = .ok (.sipush 5040, 3) := by decide +kernel
theorem dX6_signs_112 : decode cX6_signs 112 = .ok (.if_icmp .gt 40, 3) := by decide +kernel
theorem dX6_signs_115 : decode cX6_signs 115 = .ok (.aload_n 0, 1) := by decide +kernel
theorem dX6_signs_116 : decode cX6_signs 116 = .ok (.getfield 49, 3) := by decide +kernel
theorem dX6_signs_119 : decode cX6_signs 119 = .ok (.iload 7, 2) := by decide +kernel
theorem dX6_signs_121 : decode cX6_signs 121 = .ok (.iaload, 1) := by decide +kernel
theorem dX6_signs_122 : decode cX6_signs 122 = .ok (.ifCond .ge 30, 3) := by decide +kernel
theorem dX6_signs_125 : decode cX6_signs 125 = .ok (.aload_n 0, 1) := by decide +kernel
theorem dX6_signs_126 : decode cX6_signs 126 = .ok (.getfield 49, 3) := by decide +kernel
theorem dX6_signs_129 : decode cX6_signs 129 = .ok (.iload 7, 2) := by decide +kernel
theorem dX6_signs_131 : decode cX6_signs 131 = .ok (.aload_n 0, 1) := by decide +kernel
theorem dX6_signs_132 : decode cX6_signs 132 = .ok (.getfield 49, 3) := by decide +kernel
theorem dX6_signs_135 : decode cX6_signs 135 = .ok (.iload 5, 2) := by decide +kernel
theorem dX6_signs_137 : decode cX6_signs 137 = .ok (.iaload, 1) := by decide +kernel
theorem dX6_signs_138 : decode cX6_signs 138 = .ok (.iconst 1, 1) := by decide +kernel
theorem dX6_signs_139 : decode cX6_signs 139 = .ok (.iadd, 1) := by decide +kernel
theorem dX6_signs_140 : decode cX6_signs 140 = .ok (.iastore, 1) := by decide +kernel
theorem dX6_signs_141 : decode cX6_signs 141 = .ok (.aload_n 0, 1) := by decide +kernel
theorem dX6_signs_142 : decode cX6_signs 142 = .ok (.getfield 52, 3) := by decide +kernel
theorem dX6_signs_145 : decode cX6_signs 145 = .ok (.iload_n 3, 1) := by decide +kernel
theorem dX6_signs_146 : decode cX6_signs 146 = .ok (.iload 7, 2) := by decide +kernel
theorem dX6_signs_148 : decode cX6_signs 148 = .ok (.iastore, 1) := by decide +kernel
theorem dX6_signs_149 : decode cX6_signs 149 = .ok (.iinc 3 1, 3) := by decide +kernel
theorem dX6_signs_152 : decode cX6_signs 152 = .ok (.iinc 6 1, 3) := by decide +kernel
theorem dX6_signs_155 : decode cX6_signs 155 = .ok (.goto (-68), 3) := by decide +kernel
theorem dX6_signs_158 : decode cX6_signs 158 = .ok (.iinc 4 1, 3) := by decide +kernel
theorem dX6_signs_161 : decode cX6_signs 161 = .ok (.goto (-92), 3) := by decide +kernel
theorem dX6_signs_164 : decode cX6_signs 164 = .ok (.aload_n 0, 1) := by decide +kernel
theorem dX6_signs_165 : decode cX6_signs 165 = .ok (.getfield 49, 3) := by decide +kernel
theorem dX6_signs_168 : decode cX6_signs 168 = .ok (.iload_n 2, 1) := by decide +kernel
theorem dX6_signs_169 : decode cX6_signs 169 = .ok (.iaload, 1) := by decide +kernel
theorem dX6_signs_170 : decode cX6_signs 170 = .ok (.ireturn, 1) := by decide +kernel
theorem dJ6_bitCount_0f7a4_0 : decode cJ6_bitCount_0f7a4 0 = .ok (.iload_n 0, 1) := by decide +kernel
theorem dJ6_bitCount_0f7a4_1 : decode cJ6_bitCount_0f7a4 1 = .ok (.iload_n 0, 1) := by decide +kernel
theorem dJ6_bitCount_0f7a4_2 : decode cJ6_bitCount_0f7a4 2 = .ok (.iconst 1, 1) := by decide +kernel
theorem dJ6_bitCount_0f7a4_3 : decode cJ6_bitCount_0f7a4 3 = .ok (.iushr, 1) := by decide +kernel
theorem dJ6_bitCount_0f7a4_4 : decode cJ6_bitCount_0f7a4 4 = .ok (.ldc_w 265, 3) := by decide +kernel
theorem dJ6_bitCount_0f7a4_7 : decode cJ6_bitCount_0f7a4 7 = .ok (.iand, 1) := by decide +kernel
theorem dJ6_bitCount_0f7a4_8 : decode cJ6_bitCount_0f7a4 8 = .ok (.isub, 1) := by decide +kernel
theorem dJ6_bitCount_0f7a4_9 : decode cJ6_bitCount_0f7a4 9 = .ok (.istore_n 0, 1) := by decide +kernel
theorem dJ6_bitCount_0f7a4_10 : decode cJ6_bitCount_0f7a4 10 = .ok (.iload_n 0, 1) := by decide +kernel
theorem dJ6_bitCount_0f7a4_11 : decode cJ6_bitCount_0f7a4 11 = .ok (.ldc_w 266, 3) := by decide +kernel
theorem dJ6_bitCount_0f7a4_14 : decode cJ6_bitCount_0f7a4 14 = .ok (.iand, 1) := by decide +kernel
theorem dJ6_bitCount_0f7a4_15 : decode cJ6_bitCount_0f7a4 15 = .ok (.iload_n 0, 1) := by decide +kernel
theorem dJ6_bitCount_0f7a4_16 : decode cJ6_bitCount_0f7a4 16 = .ok (.iconst 2, 1) := by decide +kernel
theorem dJ6_bitCount_0f7a4_17 : decode cJ6_bitCount_0f7a4 17 = .ok (.iushr, 1) := by decide +kernel
theorem dJ6_bitCount_0f7a4_18 : decode cJ6_bitCount_0f7a4 18 = .ok (.ldc_w 266, 3) := by decide +kernel
theorem dJ6_bitCount_0f7a4_21 : decode cJ6_bitCount_0f7a4 21 = .ok (.iand, 1) := by decide +kernel
theorem dJ6_bitCount_0f7a4_22 : decode cJ6_bitCount_0f7a4 22 = .ok (.iadd, 1) := by decide +kernel
theorem dJ6_bitCount_0f7a4_23 : decode cJ6_bitCount_0f7a4 23 = .ok (.istore_n 0, 1) := by decide +kernel
theorem dJ6_bitCount_0f7a4_24 : decode cJ6_bitCount_0f7a4 24 = .ok (.iload_n 0, 1) := by decide +kernel
theorem dJ6_bitCount_0f7a4_25 : decode cJ6_bitCount_0f7a4 25 = .ok (.iload_n 0, 1) := by decide +kernel
theorem dJ6_bitCount_0f7a4_26 : decode cJ6_bitCount_0f7a4 26 = .ok (.iconst 4, 1) := by decide +kernel
theorem dJ6_bitCount_0f7a4_27 : decode cJ6_bitCount_0f7a4 27 = .ok (.iushr, 1) := by decide +kernel
theorem dJ6_bitCount_0f7a4_28 : decode cJ6_bitCount_0f7a4 28 = .ok (.iadd, 1) := by decide +kernel
theorem dJ6_bitCount_0f7a4_29 : decode cJ6_bitCount_0f7a4 29 = .ok (.ldc_w 267, 3) := by decide +kernel
theorem dJ6_bitCount_0f7a4_32 : decode cJ6_bitCount_0f7a4 32 = .ok (.iand, 1) := by decide +kernel
theorem dJ6_bitCount_0f7a4_33 : decode cJ6_bitCount_0f7a4 33 = .ok (.istore_n 0, 1) := by decide +kernel
theorem dJ6_bitCount_0f7a4_34 : decode cJ6_bitCount_0f7a4 34 = .ok (.iload_n 0, 1) := by decide +kernel
theorem dJ6_bitCount_0f7a4_35 : decode cJ6_bitCount_0f7a4 35 = .ok (.iload_n 0, 1) := by decide +kernel
theorem dJ6_bitCount_0f7a4_36 : decode cJ6_bitCount_0f7a4 36 = .ok (.bipush 8, 2) := by decide +kernel
theorem dJ6_bitCount_0f7a4_38 : decode cJ6_bitCount_0f7a4 38 = .ok (.iushr, 1) := by decide +kernel
theorem dJ6_bitCount_0f7a4_39 : decode cJ6_bitCount_0f7a4 39 = .ok (.iadd, 1) := by decide +kernel
theorem dJ6_bitCount_0f7a4_40 : decode cJ6_bitCount_0f7a4 40 = .ok (.istore_n 0, 1) := by decide +kernel
theorem dJ6_bitCount_0f7a4_41 : decode cJ6_bitCount_0f7a4 41 = .ok (.iload_n 0, 1) := by decide +kernel
theorem dJ6_bitCount_0f7a4_42 : decode cJ6_bitCount_0f7a4 42 = .ok (.iload_n 0, 1) := by decide +kernel
theorem dJ6_bitCount_0f7a4_43 : decode cJ6_bitCount_0f7a4 43 = .ok (.bipush 16, 2) := by decide +kernel
theorem dJ6_bitCount_0f7a4_45 : decode cJ6_bitCount_0f7a4 45 = .ok (.iushr, 1) := by decide +kernel
theorem dJ6_bitCount_0f7a4_46 : decode cJ6_bitCount_0f7a4 46 = .ok (.iadd, 1) := by decide +kernel
theorem dJ6_bitCount_0f7a4_47 : decode cJ6_bitCount_0f7a4 47 = .ok (.istore_n 0, 1) := by decide +kernel
theorem dJ6_bitCount_0f7a4_48 : decode cJ6_bitCount_0f7a4 48 = .ok (.iload_n 0, 1) := by decide +kernel
theorem dJ6_bitCount_0f7a4_49 : decode cJ6_bitCount_0f7a4 49 = .ok (.bipush 63, 2) := by decide +kernel
theorem dJ6_bitCount_0f7a4_51 : decode cJ6_bitCount_0f7a4 51 = .ok (.iand, 1) := by decide +kernel
theorem dJ6_bitCount_0f7a4_52 : decode cJ6_bitCount_0f7a4 52 = .ok (.ireturn, 1) := by decide +kernel
theorem dJ9_abs_0f7a4_0 : decode cJ9_abs_0f7a4 0 = .ok (.iload_n 0, 1) := by decide +kernel
theorem dJ9_abs_0f7a4_1 : decode cJ9_abs_0f7a4 1 = .ok (.ifCond .ge 8, 3) := by decide +kernel
theorem dJ9_abs_0f7a4_4 : decode cJ9_abs_0f7a4 4 = .ok (.iload_n 0, 1) := by decide +kernel
theorem dJ9_abs_0f7a4_5 : decode cJ9_abs_0f7a4 5 = .ok (.ineg, 1) := by decide +kernel
theorem dJ9_abs_0f7a4_6 : decode cJ9_abs_0f7a4 6 = .ok (.goto 4, 3) := by decide +kernel
theorem dJ9_abs_0f7a4_9 : decode cJ9_abs_0f7a4 9 = .ok (.iload_n 0, 1) := by decide +kernel
theorem dJ9_abs_0f7a4_10 : decode cJ9_abs_0f7a4 10 = .ok (.ireturn, 1) := by decide +kernel
theorem dJ9_max_7cf53_0 : decode cJ9_max_7cf53 0 = .ok (.iload_n 0, 1) := by decide +kernel
theorem dJ9_max_7cf53_1 : decode cJ9_max_7cf53 1 = .ok (.iload_n 1, 1) := by decide +kernel
theorem dJ9_max_7cf53_2 : decode cJ9_max_7cf53 2 = .ok (.if_icmp .lt 7, 3) := by decide +kernel
theorem dJ9_max_7cf53_5 : decode cJ9_max_7cf53 5 = .ok (.iload_n 0, 1) := by decide +kernel
theorem dJ9_max_7cf53_6 : decode cJ9_max_7cf53 6 = .ok (.goto 4, 3) := by decide +kernel
theorem dJ9_max_7cf53_9 : decode cJ9_max_7cf53 9 = .ok (.iload_n 1, 1) := by decide +kernel
theorem dJ9_max_7cf53_10 : decode cJ9_max_7cf53 10 = .ok (.ireturn, 1) := by decide +kernel
theorem dJ9_min_7cf53_0 : decode cJ9_min_7cf53 0 = .ok (.iload_n 0, 1) := by decide +kernel
theorem dJ9_min_7cf53_1 : decode cJ9_min_7cf53 1 = .ok (.iload_n 1, 1) := by decide +kernel
theorem dJ9_min_7cf53_2 : decode cJ9_min_7cf53 2 = .ok (.if_icmp .gt 7, 3) := by decide +kernel
theorem dJ9_min_7cf53_5 : decode cJ9_min_7cf53 5 = .ok (.iload_n 0, 1) := by decide +kernel
theorem dJ9_min_7cf53_6 : decode cJ9_min_7cf53 6 = .ok (.goto 4, 3) := by decide +kernel
theorem dJ9_min_7cf53_9 : decode cJ9_min_7cf53 9 = .ok (.iload_n 1, 1) := by decide +kernel
theorem dJ9_min_7cf53_10 : decode cJ9_min_7cf53 10 = .ok (.ireturn, 1) := by decide +kernel
set_option maxRecDepth 20000 in
theorem ggJ0_charAt_5068e_J0_isLatin1_aae02 : GoodIn wsJ0_charAt_5068e wsJ0_isLatin1_aae02 := goodIn_r _ [6, 7, 8] (by decide +kernel) (by decide +kernel)
set_option maxRecDepth 20000 in
theorem gJ0_charAt_5068e_J0_isLatin1_aae02 : GoodIn wsJ0_charAt_5068e (wsV RJ0 492 RJ0 yJ0_isLatin1_aae02 wsJ0_isLatin1_aae02) := goodIn_app (goodIn_of _ (by decide +kernel)) ggJ0_charAt_5068e_J0_isLatin1_aae02
set_option maxRecDepth 20000 in
theorem ggJ0_charAt_5068e_J1_charAt_3b067 : GoodIn wsJ0_charAt_5068e wsJ1_charAt_3b067 := goodIn_r _ [12, 13, 14, 5, 15, 16, 17, 18, 19, 20] (by decide +kernel) (by decide +kernel)
set_option maxRecDepth 20000 in
theorem gJ0_charAt_5068e_J1_charAt_3b067 : GoodIn wsJ0_charAt_5068e (va_wsS RJ0 495 yJ1_charAt_3b067 wsJ1_charAt_3b067) := goodIn_app (goodIn_of _ (by decide +kernel)) ggJ0_charAt_5068e_J1_charAt_3b067
set_option maxRecDepth 20000 in
theorem ggJ0_charAt_5068e_J2_charAt_3b067 : GoodIn wsJ0_charAt_5068e wsJ2_charAt_3b067 := goodIn_r _ [24, 25, 26, 23, 27, 28, 29, 30, 31, 14, 5, 15, 16, 17, 18, 19, 20, 32, 33, 34, 35, 36, 37] (by decide +kernel) (by decide +kernel)
set_option maxRecDepth 20000 in
theorem gJ0_charAt_5068e_J2_charAt_3b067 : GoodIn wsJ0_charAt_5068e (va_wsS RJ0 498 yJ2_charAt_3b067 wsJ2_charAt_3b067) := goodIn_app (goodIn_of _ (by decide +kernel)) ggJ0_charAt_5068e_J2_charAt_3b067
theorem dJ0_charAt_5068e_0 : decode cJ0_charAt_5068e 0 = .ok (.aload_n 0, 1) := by decide +kernel
theorem dJ0_charAt_5068e_1 : decode cJ0_charAt_5068e 1 = .ok (.invokevirtual 492, 3) := by decide +kernel
theorem dJ0_charAt_5068e_4 : decode cJ0_charAt_5068e 4 = .ok (.ifCond .eq 12, 3) := by decide +kernel
theorem dJ0_charAt_5068e_7 : decode cJ0_charAt_5068e 7 = .ok (.aload_n 0, 1) := by decide +kernel
theorem dJ0_charAt_5068e_8 : decode cJ0_charAt_5068e 8 = .ok (.getfield 9, 3) := by decide +kernel
theorem dJ0_charAt_5068e_11 : decode cJ0_charAt_5068e 11 = .ok (.iload_n 1, 1) := by decide +kernel
theorem dJ0_charAt_5068e_12 : decode cJ0_charAt_5068e 12 = .ok (.invokestatic 495, 3) := by decide +kernel
theorem dJ0_charAt_5068e_15 : decode cJ0_charAt_5068e 15 = .ok (.ireturn, 1) := by decide +kernel
theorem dJ0_charAt_5068e_16 : decode cJ0_charAt_5068e 16 = .ok (.aload_n 0, 1) := by decide +kernel
theorem dJ0_charAt_5068e_17 : decode cJ0_charAt_5068e 17 = .ok (.getfield 9, 3) := by decide +kernel
theorem dJ0_charAt_5068e_20 : decode cJ0_charAt_5068e 20 = .ok (.iload_n 1, 1) := by decide +kernel
theorem dJ0_charAt_5068e_21 : decode cJ0_charAt_5068e 21 = .ok (.invokestatic 498, 3) := by decide +kernel
theorem dJ0_charAt_5068e_24 : decode cJ0_charAt_5068e 24 = .ok (.ireturn, 1) := by decide +kernel
theorem dJ0_isLatin1_aae02_0 : decode cJ0_isLatin1_aae02 0 = .ok (.getstatic 38, 3) := by decide +kernel
theorem dJ0_isLatin1_aae02_3 : decode cJ0_isLatin1_aae02 3 = .ok (.ifCond .eq 14, 3) := by decide +kernel
end
section
theorem dJ0_isLatin1_aae02_6 : decode cJ0_isLatin1_aae02 6 = .ok (.aload_n 0, 1) := by decide +kernel
theorem dJ0_isLatin1_aae02_7 : decode cJ0_isLatin1_aae02 7 = .ok (.getfield 15, 3) := by decide +kernel
theorem dJ0_isLatin1_aae02_10 : decode cJ0_isLatin1_aae02 10 = .ok (.ifCond .ne 7, 3) := by decide +kernel
theorem dJ0_isLatin1_aae02_13 : decode cJ0_isLatin1_aae02 13 = .ok (.iconst 1, 1) := by decide +kernel
theorem dJ0_isLatin1_aae02_14 : decode cJ0_isLatin1_aae02 14 = .ok (.goto 4, 3) := by decide +kernel
theorem dJ0_isLatin1_aae02_17 : decode cJ0_isLatin1_aae02 17 = .ok (.iconst 0, 1) := by decide +kernel
theorem dJ0_isLatin1_aae02_18 : decode cJ0_isLatin1_aae02 18 = .ok (.ireturn, 1) := by decide +kernel
set_option maxRecDepth 20000 in
theorem ggJ0_checkIndex_df160_J3_checkIndex_8e157 : GoodIn wsJ0_checkIndex_df160 wsJ3_checkIndex_8e157 := goodIn_r _ [5] (by decide +kernel) (by decide +kernel)
set_option maxRecDepth 20000 in
theorem gJ0_checkIndex_df160_J3_checkIndex_8e157 : GoodIn wsJ0_checkIndex_df160 (va_wsS RJ0 1059 yJ3_checkIndex_8e157 wsJ3_checkIndex_8e157) := goodIn_app (goodIn_of _ (by decide +kernel)) ggJ0_checkIndex_df160_J3_checkIndex_8e157
theorem dJ0_checkIndex_df160_0 : decode cJ0_checkIndex_df160 0 = .ok (.iload_n 0, 1) := by decide +kernel
theorem dJ0_checkIndex_df160_1 : decode cJ0_checkIndex_df160 1 = .ok (.iload_n 1, 1) := by decide +kernel
theorem dJ0_checkIndex_df160_2 : decode cJ0_checkIndex_df160 2 = .ok (.getstatic 1053, 3) := by decide +kernel
theorem dJ0_checkIndex_df160_5 : decode cJ0_checkIndex_df160 5 = .ok (.invokestatic 1059, 3) := by decide +kernel
theorem dJ0_checkIndex_df160_8 : decode cJ0_checkIndex_df160 8 = .ok (.pop, 1) := by decide +kernel
theorem dJ0_checkIndex_df160_9 : decode cJ0_checkIndex_df160 9 = .ok (.return_, 1) := by decide +kernel
set_option maxRecDepth 20000 in
theorem ggJ1_charAt_3b067_J0_checkIndex_df160 : GoodIn wsJ1_charAt_3b067 wsJ0_checkIndex_df160 := goodIn_r _ [4, 5, 6, 7, 8, 9] (by decide +kernel) (by decide +kernel)
set_option maxRecDepth 20000 in
theorem gJ1_charAt_3b067_J0_checkIndex_df160 : GoodIn wsJ1_charAt_3b067 (va_wsS RJ1 9 yJ0_checkIndex_df160 wsJ0_checkIndex_df160) := goodIn_app (goodIn_of _ (by decide +kernel)) ggJ1_charAt_3b067_J0_checkIndex_df160
theorem dJ1_charAt_3b067_0 : decode cJ1_charAt_3b067 0 = .ok (.iload_n 1, 1) := by decide +kernel
theorem dJ1_charAt_3b067_1 : decode cJ1_charAt_3b067 1 = .ok (.aload_n 0, 1) := by decide +kernel
theorem dJ1_charAt_3b067_2 : decode cJ1_charAt_3b067 2 = .ok (.arraylength, 1) := by decide +kernel
theorem dJ1_charAt_3b067_3 : decode cJ1_charAt_3b067 3 = .ok (.invokestatic 9, 3) := by decide +kernel
theorem dJ1_charAt_3b067_6 : decode cJ1_charAt_3b067 6 = .ok (.aload_n 0, 1) := by decide +kernel
theorem dJ1_charAt_3b067_7 : decode cJ1_charAt_3b067 7 = .ok (.iload_n 1, 1) := by decide +kernel
theorem dJ1_charAt_3b067_8 : decode cJ1_charAt_3b067 8 = .ok (.baload, 1) := by decide +kernel
theorem dJ1_charAt_3b067_9 : decode cJ1_charAt_3b067 9 = .ok (.sipush 255, 3) := by decide +kernel
theorem dJ1_charAt_3b067_12 : decode cJ1_charAt_3b067 12 = .ok (.iand, 1) := by decide +kernel
theorem dJ1_charAt_3b067_13 : decode cJ1_charAt_3b067 13 = .ok (.i2c, 1) := by decide +kernel
theorem dJ1_charAt_3b067_14 : decode cJ1_charAt_3b067 14 = .ok (.ireturn, 1) := by decide +kernel
set_option maxRecDepth 20000 in
theorem ggJ2_getChar_3b067_J2_length_9d52b : GoodIn wsJ2_getChar_3b067 wsJ2_length_9d52b := goodIn_r _ [7] (by decide +kernel) (by decide +kernel)
set_option maxRecDepth 20000 in
theorem gJ2_getChar_3b067_J2_length_9d52b : GoodIn wsJ2_getChar_3b067 (va_wsS RJ2 48 yJ2_length_9d52b wsJ2_length_9d52b) := goodIn_app (goodIn_of _ (by decide +kernel)) ggJ2_getChar_3b067_J2_length_9d52b
theorem dJ2_getChar_3b067_0 : decode cJ2_getChar_3b067 0 = .ok (.getstatic 44, 3) := by decide +kernel
theorem dJ2_getChar_3b067_3 : decode cJ2_getChar_3b067 3 = .ok (.ifCond .ne 25, 3) := by decide +kernel
theorem dJ2_getChar_3b067_6 : decode cJ2_getChar_3b067 6 = .ok (.iload_n 1, 1) := by decide +kernel
theorem dJ2_getChar_3b067_7 : decode cJ2_getChar_3b067 7 = .ok (.ifCond .lt 11, 3) := by decide +kernel
theorem dJ2_getChar_3b067_10 : decode cJ2_getChar_3b067 10 = .ok (.iload_n 1, 1) := by decide +kernel
theorem dJ2_getChar_3b067_11 : decode cJ2_getChar_3b067 11 = .ok (.aload_n 0, 1) := by decide +kernel
theorem dJ2_getChar_3b067_12 : decode cJ2_getChar_3b067 12 = .ok (.invokestatic 48, 3) := by decide +kernel
theorem dJ2_getChar_3b067_15 : decode cJ2_getChar_3b067 15 = .ok (.if_icmp .lt 13, 3) := by decide +kernel
theorem dJ2_getChar_3b067_18 : decode cJ2_getChar_3b067 18 = .ok (.new 52, 3) := by decide +kernel
theorem dJ2_getChar_3b067_21 : decode cJ2_getChar_3b067 21 = .ok (.dup, 1) := by decide +kernel
theorem dJ2_getChar_3b067_22 : decode cJ2_getChar_3b067 22 = .ok (.ldc 54, 2) := by decide +kernel
theorem dJ2_getChar_3b067_24 : decode cJ2_getChar_3b067 24 = .ok (.invokespecial 56, 3) := by decide +kernel
theorem dJ2_getChar_3b067_27 : decode cJ2_getChar_3b067 27 = .ok (.athrow, 1) := by decide +kernel
theorem dJ2_getChar_3b067_28 : decode cJ2_getChar_3b067 28 = .ok (.iload_n 1, 1) := by decide +kernel
theorem dJ2_getChar_3b067_29 : decode cJ2_getChar_3b067 29 = .ok (.iconst 1, 1) := by decide +kernel
theorem dJ2_getChar_3b067_30 : decode cJ2_getChar_3b067 30 = .ok (.ishl, 1) := by decide +kernel
theorem dJ2_getChar_3b067_31 : decode cJ2_getChar_3b067 31 = .ok (.istore_n 1, 1) := by decide +kernel
theorem dJ2_getChar_3b067_32 : decode cJ2_getChar_3b067 32 = .ok (.aload_n 0, 1) := by decide +kernel
theorem dJ2_getChar_3b067_33 : decode cJ2_getChar_3b067 33 = .ok (.iload_n 1, 1) := by decide +kernel
theorem dJ2_getChar_3b067_34 : decode cJ2_getChar_3b067 34 = .ok (.iinc 1 1, 3) := by decide +kernel
theorem dJ2_getChar_3b067_37 : decode cJ2_getChar_3b067 37 = .ok (.baload, 1) := by decide +kernel
theorem dJ2_getChar_3b067_38 : decode cJ2_getChar_3b067 38 = .ok (.sipush 255, 3) := by decide +kernel
theorem dJ2_getChar_3b067_41 : decode cJ2_getChar_3b067 41 = .ok (.iand, 1) := by decide +kernel
theorem dJ2_getChar_3b067_42 : decode cJ2_getChar_3b067 42 = .ok (.getstatic 59, 3) := by decide +kernel
theorem dJ2_getChar_3b067_45 : decode cJ2_getChar_3b067 45 = .ok (.ishl, 1) := by decide +kernel
theorem dJ2_getChar_3b067_46 : decode cJ2_getChar_3b067 46 = .ok (.aload_n 0, 1) := by decide +kernel
theorem dJ2_getChar_3b067_47 : decode cJ2_getChar_3b067 47 = .ok (.iload_n 1, 1) := by decide +kernel
theorem dJ2_getChar_3b067_48 : decode cJ2_getChar_3b067 48 = .ok (.baload, 1) := by decide +kernel
theorem dJ2_getChar_3b067_49 : decode cJ2_getChar_3b067 49 = .ok (.sipush 255, 3) := by decide +kernel
theorem dJ2_getChar_3b067_52 : decode cJ2_getChar_3b067 52 = .ok (.iand, 1) := by decide +kernel
theorem dJ2_getChar_3b067_53 : decode cJ2_getChar_3b067 53 = .ok (.getstatic 63, 3) := by decide +kernel
theorem dJ2_getChar_3b067_56 : decode cJ2_getChar_3b067 56 = .ok (.ishl, 1) := by decide +kernel
theorem dJ2_getChar_3b067_57 : decode cJ2_getChar_3b067 57 = .ok (.ior, 1) := by decide +kernel
theorem dJ2_getChar_3b067_58 : decode cJ2_getChar_3b067 58 = .ok (.i2c, 1) := by decide +kernel
theorem dJ2_getChar_3b067_59 : decode cJ2_getChar_3b067 59 = .ok (.ireturn, 1) := by decide +kernel
theorem dJ2_length_9d52b_0 : decode cJ2_length_9d52b 0 = .ok (.aload_n 0, 1) := by decide +kernel
theorem dJ2_length_9d52b_1 : decode cJ2_length_9d52b 1 = .ok (.arraylength, 1) := by decide +kernel
theorem dJ2_length_9d52b_2 : decode cJ2_length_9d52b 2 = .ok (.iconst 1, 1) := by decide +kernel
theorem dJ2_length_9d52b_3 : decode cJ2_length_9d52b 3 = .ok (.ishr, 1) := by decide +kernel
theorem dJ2_length_9d52b_4 : decode cJ2_length_9d52b 4 = .ok (.ireturn, 1) := by decide +kernel
set_option maxRecDepth 20000 in
theorem ggJ2_charAt_3b067_J2_checkIndex_2214a : GoodIn wsJ2_charAt_3b067 wsJ2_checkIndex_2214a := goodIn_r _ [4, 5, 6, 3, 7, 8, 9, 10, 11, 12, 13, 14, 15, 16] (by decide +kernel) (by decide +kernel)
set_option maxRecDepth 20000 in
theorem gJ2_charAt_3b067_J2_checkIndex_2214a : GoodIn wsJ2_charAt_3b067 (va_wsS RJ2 67 yJ2_checkIndex_2214a wsJ2_checkIndex_2214a) := goodIn_app (goodIn_of _ (by decide +kernel)) ggJ2_charAt_3b067_J2_checkIndex_2214a
set_option maxRecDepth 20000 in
theorem ggJ2_charAt_3b067_J2_getChar_3b067 : GoodIn wsJ2_charAt_3b067 wsJ2_getChar_3b067 := goodIn_r _ [19, 20, 21, 22, 5, 6, 3, 7] (by decide +kernel) (by decide +kernel)
set_option maxRecDepth 20000 in
theorem gJ2_charAt_3b067_J2_getChar_3b067 : GoodIn wsJ2_charAt_3b067 (va_wsS RJ2 71 yJ2_getChar_3b067 wsJ2_getChar_3b067) := goodIn_app (goodIn_of _ (by decide +kernel)) ggJ2_charAt_3b067_J2_getChar_3b067
theorem dJ2_charAt_3b067_0 : decode cJ2_charAt_3b067 0 = .ok (.iload_n 1, 1) := by decide +kernel
theorem dJ2_charAt_3b067_1 : decode cJ2_charAt_3b067 1 = .ok (.aload_n 0, 1) := by decide +kernel
theorem dJ2_charAt_3b067_2 : decode cJ2_charAt_3b067 2 = .ok (.invokestatic 67, 3) := by decide +kernel
theorem dJ2_charAt_3b067_5 : decode cJ2_charAt_3b067 5 = .ok (.aload_n 0, 1) := by decide +kernel
theorem dJ2_charAt_3b067_6 : decode cJ2_charAt_3b067 6 = .ok (.iload_n 1, 1) := by decide +kernel
theorem dJ2_charAt_3b067_7 : decode cJ2_charAt_3b067 7 = .ok (.invokestatic 71, 3) := by decide +kernel
theorem dJ2_charAt_3b067_10 : decode cJ2_charAt_3b067 10 = .ok (.ireturn, 1) := by decide +kernel
set_option maxRecDepth 20000 in
theorem ggJ2_checkIndex_2214a_J2_length_9d52b : GoodIn wsJ2_checkIndex_2214a wsJ2_length_9d52b := goodIn_r _ [4] (by decide +kernel) (by decide +kernel)
set_option maxRecDepth 20000 in
theorem gJ2_checkIndex_2214a_J2_length_9d52b : GoodIn wsJ2_checkIndex_2214a (va_wsS RJ2 48 yJ2_length_9d52b wsJ2_length_9d52b) := goodIn_app (goodIn_of _ (by decide +kernel)) ggJ2_checkIndex_2214a_J2_length_9d52b
set_option maxRecDepth 20000 in
theorem ggJ2_checkIndex_2214a_J0_checkIndex_df160 : GoodIn wsJ2_checkIndex_2214a wsJ0_checkIndex_df160 := goodIn_r _ [8, 9, 10, 11, 12, 13] (by decide +kernel) (by decide +kernel)
set_option maxRecDepth 20000 in
theorem gJ2_checkIndex_2214a_J0_checkIndex_df160 : GoodIn wsJ2_checkIndex_2214a (va_wsS RJ2 414 yJ0_checkIndex_df160 wsJ0_checkIndex_df160) := goodIn_app (goodIn_of _ (by decide +kernel)) ggJ2_checkIndex_2214a_J0_checkIndex_df160
theorem dJ2_checkIndex_2214a_0 : decode cJ2_checkIndex_2214a 0 = .ok (.iload_n 0, 1) := by decide +kernel
theorem dJ2_checkIndex_2214a_1 : decode cJ2_checkIndex_2214a 1 = .ok (.aload_n 1, 1) := by decide +kernel
theorem dJ2_checkIndex_2214a_2 : decode cJ2_checkIndex_2214a 2 = .ok (.invokestatic 48, 3) := by decide +kernel
theorem dJ2_checkIndex_2214a_5 : decode cJ2_checkIndex_2214a 5 = .ok (.invokestatic 414, 3) := by decide +kernel
theorem dJ2_checkIndex_2214a_8 : decode cJ2_checkIndex_2214a 8 = .ok (.return_, 1) := by decide +kernel
theorem dJ3_checkIndex_8e157_0 : decode cJ3_checkIndex_8e157 0 = .ok (.iload_n 0, 1) := by decide +kernel
theorem dJ3_checkIndex_8e157_1 : decode cJ3_checkIndex_8e157 1 = .ok (.ifCond .lt 8, 3) := by decide +kernel
theorem dJ3_checkIndex_8e157_4 : decode cJ3_checkIndex_8e157 4 = .ok (.iload_n 0, 1) := by decide +kernel
theorem dJ3_checkIndex_8e157_5 : decode cJ3_checkIndex_8e157 5 = .ok (.iload_n 1, 1) := by decide +kernel
theorem dJ3_checkIndex_8e157_6 : decode cJ3_checkIndex_8e157 6 = .ok (.if_icmp .lt 10, 3) := by decide +kernel
theorem dJ3_checkIndex_8e157_9 : decode cJ3_checkIndex_8e157 9 = .ok (.aload_n 2, 1) := by decide +kernel
theorem dJ3_checkIndex_8e157_10 : decode cJ3_checkIndex_8e157 10 = .ok (.iload_n 0, 1) := by decide +kernel
theorem dJ3_checkIndex_8e157_11 : decode cJ3_checkIndex_8e157 11 = .ok (.iload_n 1, 1) := by decide +kernel
theorem dJ3_checkIndex_8e157_12 : decode cJ3_checkIndex_8e157 12 = .ok (.invokestatic 95, 3) := by decide +kernel
theorem dJ3_checkIndex_8e157_15 : decode cJ3_checkIndex_8e157 15 = .ok (.athrow, 1) := by decide +kernel
theorem dJ3_checkIndex_8e157_16 : decode cJ3_checkIndex_8e157 16 = .ok (.iload_n 0, 1) := by decide +kernel
theorem dJ3_checkIndex_8e157_17 : decode cJ3_checkIndex_8e157 17 = .ok (.ireturn, 1) := by decide +kernel
end
section
/-! MY WORLD: the cells of class and reference by tags 0 .. 200; the ints and longs that they hold are a memory: tag, place -/
abbrev xM : Type := Nat → Nat → Int32
abbrev xL : Type := Nat → Nat → Int64
def xu (A : xM) (k j : Nat) (v : Int32) : xM := fun a b => if a = k ∧ b = j then v else A a b
def xul (L : xL) (k j : Nat) (v : Int64) : xL := fun a b => if a = k ∧ b = j then v else L a b
theorem xu_up (A : xM) (k j : Nat) (v : Int32) : va_up A k (upd (A k) j v) = xu A k j v := by
  funext a b
  by_cases h : a = k
  · subst h
    by_cases h2 : b = j
    · subst h2; simp [va_up, upd, xu]
    · simp [va_up, upd, xu, h2]
  · simp [va_up, xu, h]
theorem xul_up (L : xL) (k j : Nat) (v : Int64) : va_up L k (vp_updL (L k) j v) = xul L k j v := by
  funext a b
  by_cases h : a = k
  · subst h
    by_cases h2 : b = j
    · subst h2; simp [va_up, vp_updL, xul]
    · simp [va_up, vp_updL, xul, h2]
  · simp [va_up, xul, h]
theorem va_up_same {α : Type} (f : Nat → α) (k : Nat) : va_up f k (f k) = f := by
  funext j
  by_cases h : j = k
  · subst h; simp [va_up]
  · simp [va_up, h]
def xR (ad : Nat → Nat) (n b : Nat) : Nat → Option Nat := fun i => if i < n then some (ad (b + i)) else none
def xia (cT : Nat → ClassId) (n : Nat) (a : Nat → Int32) : va_E := .inl (cT 0, n, .inl a)
def xca (cT : Nat → ClassId) (n : Nat) (a : Nat → Int32) : va_E := .inl (cT 2, n, .inl a)
def xla (cT : Nat → ClassId) (n : Nat) (lo : Nat → Int64) : va_E := .inl (cT 1, n, .inr (.inl lo))
def xra (cT : Nat → ClassId) (c n : Nat) (f : Nat → Option Nat) : va_E := .inl (cT c, n, .inr (.inr (.inr (.inr f))))
def xfs (ad : Nat → Nat) (a : Nat → Int32) : Nat → List Value := fun k => match k with
  | 0 => [.ref (ad 1), .ref (ad 2), .ref (ad 8), .ref (ad 14), .ref (ad 18), .ref (ad 20)]
  | 1 => [.int (a 0), .int (a 1)]
  | 2 => [.ref (ad 1), .ref (ad 3), .ref (ad 4), .ref (ad 5), .ref (ad 6), .ref (ad 7), .int (a 6), .int (a 7)]
  | 3 => [.ref (ad 1), .ref (ad 9), .ref (ad 10), .ref (ad 11), .ref (ad 12), .ref (ad 13), .int (a 6), .int (a 7)]
  | 4 => [.ref (ad 8), .ref (ad 15), .int (a 2), .ref (ad 16), .ref (ad 17), .int (a 5)]
  | 5 => [.ref (ad 19), .int (a 1)]
  | 6 => [.ref (ad 21), .ref (ad 22), .int (a 2), .int (a 3)]
  | _ => [.int (a 0), .ref (ad 24), .int (a 2), .int (a 3), .int (a 4), .ref (ad 25), .ref (ad 26), .int (a 7), .ref (ad 27), .int (a 9), .ref (ad 28), .ref (ad 29), .ref (ad 30), .int (a 13), .ref (ad 31), .ref (ad 32), .int (a 16), .ref (ad 33), .ref (ad 34), .ref (ad 35)]
/-- the cells, by tag: 0 the object, 1 its rules, 2 the heap (3 .. 7), 8 the trial heap (9 .. 13), 14 the box (15 .. 17), 18 the out (19), 20 the signs (21, 22), 23 the reference (24 .. 35), 36 .. 200 the rows of the grids -/
def xF (cT : Nat → ClassId) (ad : Nat → Nat) (a : Nat → Int32) (lo : Nat → Int64) (k : Nat) : va_E :=
  if k < 36 then
    ([.inr (5, xfs ad a 0), .inr (3, xfs ad a 1),
      .inr (1, xfs ad a 2), xia cT 6 a, xra cT 4 64 (xR ad 64 36), xra cT 3 64 (xR ad 64 100), xia cT 64 a, xia cT 3001 a,
      .inr (1, xfs ad a 3), xia cT 4 a, xra cT 4 16 (xR ad 16 164), xra cT 3 16 (xR ad 16 180), xia cT 16 a, xia cT 3001 a,
      .inr (0, xfs ad a 4), xia cT 10 a, xra cT 3 5 (xR ad 5 196), xia cT 5 a,
      .inr (2, xfs ad a 5), xca cT 33 a, .inr (4, xfs ad a 6), xia cT 5041 a, xia cT 5041 a,
      .inr (6, xfs ad a 7), xia cT 6 a, xia cT 10 a, xia cT 100 a, xia cT 6 a, xla cT 192064 lo, xia cT 3001 a, xia cT 3001 a, xia cT 40 a, xia cT 40 a, xia cT 101 a, xia cT 5041 a, xia cT 5041 a] : List va_E).getD k (.inr (0, []))
  else if k < 100 then xla cT 3001 lo else if k < 164 then xia cT 3000 a else if k < 180 then xla cT 3001 lo else if k < 196 then xia cT 3000 a else xia cT 3001 a
abbrev xGt : Type := va_G × (Nat → ClassId) × (Nat → Nat) × Nat
def xcT (G : xGt) : Nat → ClassId := G.2.1
def xad (G : xGt) : Nat → Nat := G.2.2.1
def xb0 (G : xGt) : Nat := G.2.2.2
def xAf (G : xGt) : Nat → Prop := fun q => xb0 G ≤ q
def xtys (G : xGt) : List (ClassId × FieldType) := [(xcT G 0, .int), (xcT G 1, .long), (xcT G 2, .char), (xcT G 3, .array .int), (xcT G 4, .array .long)]
def xE (G : xGt) (A : xM) (L : xL) : Nat → va_E := fun k => xF (xcT G) (xad G) (A k) (L k) k
def xw (G : xGt) (E : Nat → va_E) : va_W := (List.range 201).map (fun k => (xad G k, E k))
def xnest : List Cond := [.fieldLinkNest RX5 55 RX1 "size" "I" RX5, .fieldLinkNest RX5 71 RX3 "acts" "I" RX5, .fieldLinkNest RX5 74 RX3 "most" "I" RX5, .fieldLinkNest RX1 75 RX3 "most" "I" RX5, .fieldLinkNest RX5 83 RX0 "size" "I" RX5, .fieldLinkNest RX5 84 RX2 "length" "I" RX5, .methodLinkNest RX5 39 yX2_init RX5, .methodLinkNest RX5 46 yX4_init RX5, .methodLinkNest RX5 9 yX3_init RX5, .methodLinkNest RX1 98 yX5_rightNumber RX5, .methodLinkNest RX4 25 yX5_isOutside RX5]
def xisn (w : Cond) : Bool := match w with
  | .fieldLinkNest _ _ _ _ _ _ => true
  | .methodLinkNest _ _ _ _ => true
  | _ => false
theorem xisn_warm {w : Cond} (h : xisn w = true) {s U : State} (hW : s.WarmedH U.vm) (hZ : va_Nw w s) : va_Nw w U := by
  cases w <;> first | exact va_Nw.warmF hW hZ | exact va_Nw.warmM hW hZ | (exfalso; revert h; simp [xisn])
theorem xisn_same {w : Cond} (h : xisn w = true) {s U : State} (hv : s.vm = U.vm) (hZ : va_Nw w s) : va_Nw w U := by
  cases w <;> first | exact va_Nw.same rfl hv hZ | (exfalso; revert h; simp [xisn])
theorem xnest_is : ∀ w ∈ xnest, xisn w = true := by
  intro w h
  simp only [xnest, List.mem_cons, List.not_mem_nil, or_false] at h
  rcases h with rfl | rfl | rfl | rfl | rfl | rfl | rfl | rfl | rfl | rfl | rfl <;> rfl
def xS (G : xGt) (s : State) : Prop := va_K G.1 vwCl (xtys G) s ∧ (∀ i j, i < 201 → j < 201 → xad G i = xad G j → i = j) ∧ (∀ i, i < 201 → xb0 G ≤ xad G i) ∧ ∀ w ∈ xnest, va_Nw w s
def xW (G : xGt) (H0 : Heap) (A : xM) (L : xL) (H : Heap) (locs : List Loc) : Prop := va_P G.1 vwCl (xw G (xE G A L)) H ∧ va_S (xAf G) H0 H locs
theorem xw_at {G : xGt} {E : Nat → va_E} {k : Nat} (h : k < 201) : (xw G E)[k]? = some (xad G k, E k) := by
  unfold xw
  rw [List.getElem?_map, List.getElem?_range h]
  rfl
theorem xw_of {G : xGt} {E : Nat → va_E} {k : Nat} {q : Nat × va_E} (h : (xw G E)[k]? = some q) : k < 201 ∧ q = (xad G k, E k) := by
  have hk : k < 201 := by
    have := (List.getElem?_eq_some_iff.mp h).1
    simpa [xw] using this
  rw [xw_at hk] at h
  exact ⟨hk, (Option.some.inj h).symm⟩
theorem xw_set {G : xGt} {E : Nat → va_E} {k : Nat} (h : k < 201) (e : va_E) : (xw G E).set k (xad G k, e) = xw G (va_up E k e) := by
  apply List.ext_getElem?
  intro j
  by_cases hj : j < 201
  · rw [xw_at hj]
    by_cases hk : k = j
    · subst hk
      rw [List.getElem?_set_self (by simp [xw]; exact h)]
      simp [va_up]
    · rw [List.getElem?_set_ne hk, xw_at hj]
      simp [va_up, Ne.symm hk]
  · rw [List.getElem?_eq_none (by simp [xw]; omega), List.getElem?_eq_none (by simp [xw]; omega)]
theorem xw_D {G : xGt} {s : State} (hG : xS G s) (E : Nat → va_E) : va_D (xAf G) (xw G E) := by
  refine ⟨fun i j p q hp hq e => ?_, fun k q hq => ?_⟩
  · obtain ⟨h1, rfl⟩ := xw_of hp
    obtain ⟨h2, rfl⟩ := xw_of hq
    exact hG.2.1 i j h1 h2 e
  · obtain ⟨h1, rfl⟩ := xw_of hq
    exact hG.2.2.1 k h1
theorem xE_up {G : xGt} {A : xM} {L : xL} {k : Nat} {f : Nat → Int32} {g : Nat → Int64} {e : va_E} (he : e = xF (xcT G) (xad G) f g k) : va_up (xE G A L) k e = xE G (va_up A k f) (va_up L k g) := by
  funext j
  by_cases h : j = k
  · subst h
    simp [va_up, xE, he]
  · simp [va_up, xE, h]
theorem xS.moved {G : xGt} {u U : State} (hW : u.WarmedH U.vm) (h : xS G u) : xS G U := ⟨va_K.moved hW.alike h.1, h.2.1, h.2.2.1, fun w hw => xisn_warm (xnest_is w hw) hW (h.2.2.2 w hw)⟩
/-- which tag is what -/
def xIA (k n : Nat) : Prop := k < 201 ∧ ∀ cT ad a lo, xF cT ad a lo k = .inl (cT 0, n, .inl a)
def xCA (k n : Nat) : Prop := k < 201 ∧ ∀ cT ad a lo, xF cT ad a lo k = .inl (cT 2, n, .inl a)
def xLA (k n : Nat) : Prop := k < 201 ∧ ∀ cT ad a lo, xF cT ad a lo k = .inl (cT 1, n, .inr (.inl lo))
def xRA (k c n b : Nat) : Prop := k < 201 ∧ ∀ cT ad a lo, xF cT ad a lo k = .inl (cT c, n, .inr (.inr (.inr (.inr (xR ad n b)))))
def xOB (k ci t : Nat) : Prop := k < 201 ∧ ∀ cT ad a lo, xF cT ad a lo k = .inr (ci, xfs ad a t)
theorem xO0 : xOB 0 5 0 := ⟨by decide, fun _ _ _ _ => rfl⟩
theorem xO1 : xOB 1 3 1 := ⟨by decide, fun _ _ _ _ => rfl⟩
theorem xOh {q : Nat} (hq : q < 2) : xOB (2 + 6 * q) 1 (2 + q) := by
  rcases (show q = 0 ∨ q = 1 by omega) with rfl | rfl
  · exact ⟨by decide, fun _ _ _ _ => rfl⟩
  · exact ⟨by decide, fun _ _ _ _ => rfl⟩
theorem xO14 : xOB 14 0 4 := ⟨by decide, fun _ _ _ _ => rfl⟩
theorem xO18 : xOB 18 2 5 := ⟨by decide, fun _ _ _ _ => rfl⟩
theorem xO20 : xOB 20 4 6 := ⟨by decide, fun _ _ _ _ => rfl⟩
theorem xO23 : xOB 23 6 7 := ⟨by decide, fun _ _ _ _ => rfl⟩
theorem xhI {q : Nat} (hq : q < 2) : xIA (3 + 6 * q) (6 - 2 * q) := by
  rcases (show q = 0 ∨ q = 1 by omega) with rfl | rfl <;> exact ⟨by decide, fun _ _ _ _ => rfl⟩
theorem xhC {q : Nat} (hq : q < 2) : xRA (4 + 6 * q) 4 (64 - 48 * q) (36 + 128 * q) := by
  rcases (show q = 0 ∨ q = 1 by omega) with rfl | rfl <;> exact ⟨by decide, fun _ _ _ _ => rfl⟩
theorem xhF {q : Nat} (hq : q < 2) : xRA (5 + 6 * q) 3 (64 - 48 * q) (100 + 80 * q) := by
  rcases (show q = 0 ∨ q = 1 by omega) with rfl | rfl <;> exact ⟨by decide, fun _ _ _ _ => rfl⟩
theorem xhN {q : Nat} (hq : q < 2) : xIA (6 + 6 * q) (64 - 48 * q) := by
  rcases (show q = 0 ∨ q = 1 by omega) with rfl | rfl <;> exact ⟨by decide, fun _ _ _ _ => rfl⟩
theorem xhH {q : Nat} (hq : q < 2) : xIA (7 + 6 * q) 3001 := by
  rcases (show q = 0 ∨ q = 1 by omega) with rfl | rfl <;> exact ⟨by decide, fun _ _ _ _ => rfl⟩
theorem vp_lt {i : Int32} {n : Nat} (h : vp_in i n) : i.toNatClampNeg < n := Nat.not_le.mp fun q => h (Or.inr q)
theorem xrC {q : Nat} (hq : q < 2) {i : Int32} (h : vp_in i (64 - 48 * q)) : xLA (36 + 128 * q + i.toNatClampNeg) 3001 := by
  have h1 := vp_lt h
  generalize i.toNatClampNeg = j at h1
  rcases (show q = 0 ∨ q = 1 by omega) with rfl | rfl
  · refine ⟨by omega, fun _ _ _ _ => ?_⟩
    unfold xF
    rw [if_neg (by omega), if_pos (by omega)]
    rfl
  · refine ⟨by omega, fun _ _ _ _ => ?_⟩
    unfold xF
    rw [if_neg (by omega), if_neg (by omega), if_neg (by omega), if_pos (by omega)]
    rfl
theorem xrF {q : Nat} (hq : q < 2) {i : Int32} (h : vp_in i (64 - 48 * q)) : xIA (100 + 80 * q + i.toNatClampNeg) 3000 := by
  have h1 := vp_lt h
  generalize i.toNatClampNeg = j at h1
  rcases (show q = 0 ∨ q = 1 by omega) with rfl | rfl
  · refine ⟨by omega, fun _ _ _ _ => ?_⟩
    unfold xF
    rw [if_neg (by omega), if_neg (by omega), if_pos (by omega)]
    rfl
  · refine ⟨by omega, fun _ _ _ _ => ?_⟩
    unfold xF
    rw [if_neg (by omega), if_neg (by omega), if_neg (by omega), if_neg (by omega), if_pos (by omega)]
    rfl
theorem xrT0 {j : Nat} (h1 : j < 5) : xIA (196 + j) 3001 := by
  refine ⟨by omega, fun _ _ _ _ => ?_⟩
  unfold xF
  rw [if_neg (by omega), if_neg (by omega), if_neg (by omega), if_neg (by omega), if_neg (by omega)]
  rfl
theorem xrT {i : Int32} (h : vp_in i 5) : xIA (196 + i.toNatClampNeg) 3001 := xrT0 (vp_lt h)
theorem xb15 : xIA 15 10 := ⟨by decide, fun _ _ _ _ => rfl⟩
theorem xb16 : xRA 16 3 5 196 := ⟨by decide, fun _ _ _ _ => rfl⟩
theorem xb17 : xIA 17 5 := ⟨by decide, fun _ _ _ _ => rfl⟩
theorem xb19 : xCA 19 33 := ⟨by decide, fun _ _ _ _ => rfl⟩
theorem xb21 : xIA 21 5041 := ⟨by decide, fun _ _ _ _ => rfl⟩
theorem xb22 : xIA 22 5041 := ⟨by decide, fun _ _ _ _ => rfl⟩
theorem xb24 : xIA 24 6 := ⟨by decide, fun _ _ _ _ => rfl⟩
theorem xb25 : xIA 25 10 := ⟨by decide, fun _ _ _ _ => rfl⟩
theorem xb26 : xIA 26 100 := ⟨by decide, fun _ _ _ _ => rfl⟩
theorem xb27 : xIA 27 6 := ⟨by decide, fun _ _ _ _ => rfl⟩
theorem xb28 : xLA 28 192064 := ⟨by decide, fun _ _ _ _ => rfl⟩
theorem xb29 : xIA 29 3001 := ⟨by decide, fun _ _ _ _ => rfl⟩
theorem xb30 : xIA 30 3001 := ⟨by decide, fun _ _ _ _ => rfl⟩
theorem xb31 : xIA 31 40 := ⟨by decide, fun _ _ _ _ => rfl⟩
theorem xb32 : xIA 32 40 := ⟨by decide, fun _ _ _ _ => rfl⟩
theorem xb33 : xIA 33 101 := ⟨by decide, fun _ _ _ _ => rfl⟩
theorem xb34 : xIA 34 5041 := ⟨by decide, fun _ _ _ _ => rfl⟩
theorem xb35 : xIA 35 5041 := ⟨by decide, fun _ _ _ _ => rfl⟩
theorem xf_h0 {q : Nat} (hq : q < 2) {ad : Nat → Nat} {a : Nat → Int32} : (xfs ad a (2 + q))[0]? = some (.ref (ad 1)) := by
  rcases (show q = 0 ∨ q = 1 by omega) with rfl | rfl <;> rfl
theorem xf_h1 {q : Nat} (hq : q < 2) {ad : Nat → Nat} {a : Nat → Int32} : (xfs ad a (2 + q))[1]? = some (.ref (ad (3 + 6 * q))) := by
  rcases (show q = 0 ∨ q = 1 by omega) with rfl | rfl <;> rfl
theorem xf_h2 {q : Nat} (hq : q < 2) {ad : Nat → Nat} {a : Nat → Int32} : (xfs ad a (2 + q))[2]? = some (.ref (ad (4 + 6 * q))) := by
  rcases (show q = 0 ∨ q = 1 by omega) with rfl | rfl <;> rfl
theorem xf_h3 {q : Nat} (hq : q < 2) {ad : Nat → Nat} {a : Nat → Int32} : (xfs ad a (2 + q))[3]? = some (.ref (ad (5 + 6 * q))) := by
  rcases (show q = 0 ∨ q = 1 by omega) with rfl | rfl <;> rfl
theorem xf_h4 {q : Nat} (hq : q < 2) {ad : Nat → Nat} {a : Nat → Int32} : (xfs ad a (2 + q))[4]? = some (.ref (ad (6 + 6 * q))) := by
  rcases (show q = 0 ∨ q = 1 by omega) with rfl | rfl <;> rfl
theorem xf_h5 {q : Nat} (hq : q < 2) {ad : Nat → Nat} {a : Nat → Int32} : (xfs ad a (2 + q))[5]? = some (.ref (ad (7 + 6 * q))) := by
  rcases (show q = 0 ∨ q = 1 by omega) with rfl | rfl <;> rfl
theorem xf_v6 {q : Nat} (hq : q < 2) {ad : Nat → Nat} {a : Nat → Int32} : (xfs ad a (2 + q))[6]? = some (.int (a 6)) := by
  rcases (show q = 0 ∨ q = 1 by omega) with rfl | rfl <;> rfl
theorem xf_v7 {q : Nat} (hq : q < 2) {ad : Nat → Nat} {a : Nat → Int32} : (xfs ad a (2 + q))[7]? = some (.int (a 7)) := by
  rcases (show q = 0 ∨ q = 1 by omega) with rfl | rfl <;> rfl
theorem xf_s6 {q : Nat} (hq : q < 2) (ad : Nat → Nat) (a : Nat → Int32) (v : Int32) : (xfs ad a (2 + q)).set 6 (.int v) = xfs ad (upd a 6 v) (2 + q) := by
  rcases (show q = 0 ∨ q = 1 by omega) with rfl | rfl <;> rfl
theorem xf_s7 {q : Nat} (hq : q < 2) (ad : Nat → Nat) (a : Nat → Int32) (v : Int32) : (xfs ad a (2 + q)).set 7 (.int v) = xfs ad (upd a 7 v) (2 + q) := by
  rcases (show q = 0 ∨ q = 1 by omega) with rfl | rfl <;> rfl
theorem xf_l {q : Nat} (hq : q < 2) {ad : Nat → Nat} {a : Nat → Int32} (j : Nat) (hj : j < 8) : j < (xfs ad a (2 + q)).length := by
  rcases (show q = 0 ∨ q = 1 by omega) with rfl | rfl <;> exact hj
/-! ROWS -/
def xPre (G : xGt) (A : xM) (L : xL) : State → Prop := fun U => va_P G.1 vwCl (xw G (xE G A L)) U.heap ∧ xS G U
def xQi (G : xGt) (post : Int32 → xM → xL → Prop) : Array Value → State → Outcome → State → Prop := va_Qi (fun r (u : xM × xL) => post r u.1 u.2) (fun u => xPre G u.1 u.2) (xAf G)
def xQl (G : xGt) (post : Int64 → xM → xL → Prop) : Array Value → State → Outcome → State → Prop := va_Ql (fun r (u : xM × xL) => post r u.1 u.2) (fun u => xPre G u.1 u.2) (xAf G)
def xQv (G : xGt) (post : xM → xL → Prop) : Array Value → State → Outcome → State → Prop := va_Qv (fun (u : xM × xL) => post u.1 u.2) (fun u => xPre G u.1 u.2) (xAf G)
/-- the end of a method that writes nothing -/
def xpi (A : xM) (L : xL) (post : Int32 → Prop) : Int32 → xM → xL → Prop := fun r A1 L1 => post r ∧ A1 = A ∧ L1 = L
def xpl (A : xM) (L : xL) (post : Int64 → Prop) : Int64 → xM → xL → Prop := fun r A1 L1 => post r ∧ A1 = A ∧ L1 = L
theorem xPre_blind {G : xGt} {A : xM} {L : xL} {av : List Value} : FrameBlind (va_Pc av (xPre G A L)) := fun a U g mk q => ⟨q.1, q.2.1, va_K.moved (u := U) (U := U.calling g mk a) (Vm.Alike.refl U.vm) q.2.2.1, q.2.2.2.1, q.2.2.2.2.1, fun w hw => xisn_same (xnest_is w hw) (s := U) (U := U.calling g mk a) rfl (q.2.2.2.2.2 w hw)⟩
/-- what a method's walk knows all the time -/
def xC (p : Program) (s : State) (m : MethodId) (args : Array Value) (meth : Method) (c : Code) (G : xGt) (cc : ByteArray) (ret : Option FieldType) (ws : List Cond) (own : String) (nL : Nat) : Prop :=
  p.tables.exec = Jvm.exec ∧ c.code = cc ∧ meth.sig.returnType = ret ∧ (∀ w ∈ ws, w.before args s = true) ∧ s.vm.findClass own = some m.cls ∧ c.maxLocals = nL ∧ meth.locks = false ∧ xS G s
section XR
variable {p : Program} {l : Launch} {e : Env} {R : Room} {s : State} {m : MethodId} {args : Array Value} {below : List Frame} {meth : Method} {c : Code} {H : Heap} {locs : List Loc} {cells slots : Nat} {Q : State → Prop}
variable {cc : ByteArray} {pc : Nat} {ls : Array Slot} {rest : List Value} {G : xGt} {H0 : Heap} {A : xM} {L : xL}
theorem x_iald (hx : p.tables.exec = Jvm.exec) (hb : c.code = cc) (hG : xS G s) (hw : xW G H0 A L H locs) {k n : Nat} (hk : xIA k n) {i : Int32} (hin : vp_in i n) (hdg : decode cc pc = .ok (.iaload, 1))
    (kk : W p l e R s m args below meth c H locs cells slots Q (F0 m (pc + 1) ls (.int (A k i.toNatClampNeg) :: rest))) : W p l e R s m args below meth c H locs cells slots Q (F0 m pc ls (.int i :: .ref (xad G k) :: rest)) :=
  va_iald hx hb hG.1 hw.1 k 0 (f := A k) (cA := xcT G 0) (n := n) (by rw [xw_at hk.1]; unfold xE; rw [hk.2]) rfl hin hdg kk
theorem x_cald (hx : p.tables.exec = Jvm.exec) (hb : c.code = cc) (hG : xS G s) (hw : xW G H0 A L H locs) {k n : Nat} (hk : xCA k n) {i : Int32} (hin : vp_in i n) (hdg : decode cc pc = .ok (.caload, 1))
    (kk : W p l e R s m args below meth c H locs cells slots Q (F0 m (pc + 1) ls (.int (A k i.toNatClampNeg) :: rest))) : W p l e R s m args below meth c H locs cells slots Q (F0 m pc ls (.int i :: .ref (xad G k) :: rest)) :=
  va_cald hx hb hG.1 hw.1 k 2 (f := A k) (cA := xcT G 2) (n := n) (by rw [xw_at hk.1]; unfold xE; rw [hk.2]) rfl hin hdg kk
theorem x_lald (hx : p.tables.exec = Jvm.exec) (hb : c.code = cc) (hG : xS G s) (hw : xW G H0 A L H locs) {k n : Nat} (hk : xLA k n) {i : Int32} (hin : vp_in i n) (hdg : decode cc pc = .ok (.laload, 1))
    (kk : W p l e R s m args below meth c H locs cells slots Q (F0 m (pc + 1) ls (.long (L k i.toNatClampNeg) :: rest))) : W p l e R s m args below meth c H locs cells slots Q (F0 m pc ls (.int i :: .ref (xad G k) :: rest)) :=
  va_lald hx hb hG.1 hw.1 k 1 (f := L k) (cA := xcT G 1) (n := n) (by rw [xw_at hk.1]; unfold xE; rw [hk.2]) rfl hin hdg kk
theorem x_aald (hx : p.tables.exec = Jvm.exec) (hb : c.code = cc) (hG : xS G s) (hw : xW G H0 A L H locs) {k ci n b : Nat} (hk : xRA k ci n b) (ty : FieldType) (ht : (xtys G)[ci]? = some (xcT G ci, .array ty)) {i : Int32} (hin : vp_in i n) (hdg : decode cc pc = .ok (.aaload, 1))
    (kk : W p l e R s m args below meth c H locs cells slots Q (F0 m (pc + 1) ls (.ref (xad G (b + i.toNatClampNeg)) :: rest))) : W p l e R s m args below meth c H locs cells slots Q (F0 m pc ls (.int i :: .ref (xad G k) :: rest)) := by
  have hlt := vp_lt hin
  have hat : (xw G (xE G A L))[k]? = some (xad G k, .inl (xcT G ci, n, .inr (.inr (.inr (.inr (xR (xad G) n b)))))) := by rw [xw_at hk.1]; unfold xE; rw [hk.2]
  exact W.aald (v := .ref (xad G (b + i.toNatClampNeg))) (ty := .array ty) hx hb (hw.1 k _ hat) ((hG.1.2 ci _ ht).1 n (fun j => va_rf (xR (xad G) n b j))) rfl (fun q => by cases q) (by show ¬ (i < 0 ∨ (arrV _ _ _).slots.size ≤ _); rw [arrV_size]; exact hin) (by show (arrV _ _ _).slots[_]? = _; rw [arrV_read _ _ hlt]; simp [xR, hlt, va_rf]) rfl rfl hdg kk
theorem x_alenI (hx : p.tables.exec = Jvm.exec) (hb : c.code = cc) (hG : xS G s) (hw : xW G H0 A L H locs) {k n : Nat} (hk : xIA k n) (hdg : decode cc pc = .ok (.arraylength, 1))
    (kk : W p l e R s m args below meth c H locs cells slots Q (F0 m (pc + 1) ls (.int (nI n) :: rest))) : W p l e R s m args below meth c H locs cells slots Q (F0 m pc ls (.ref (xad G k) :: rest)) :=
  va_alen hx hb hG.1 hw.1 k 0 (cA := xcT G 0) (x := (n, .inl (A k))) (by rw [xw_at hk.1]; unfold xE; rw [hk.2]) (ty := .int) rfl rfl hdg kk
theorem x_alenC (hx : p.tables.exec = Jvm.exec) (hb : c.code = cc) (hG : xS G s) (hw : xW G H0 A L H locs) {k n : Nat} (hk : xCA k n) (hdg : decode cc pc = .ok (.arraylength, 1))
    (kk : W p l e R s m args below meth c H locs cells slots Q (F0 m (pc + 1) ls (.int (nI n) :: rest))) : W p l e R s m args below meth c H locs cells slots Q (F0 m pc ls (.ref (xad G k) :: rest)) :=
  va_alen hx hb hG.1 hw.1 k 2 (cA := xcT G 2) (x := (n, .inl (A k))) (by rw [xw_at hk.1]; unfold xE; rw [hk.2]) (ty := .char) rfl rfl hdg kk
theorem x_alenR (hx : p.tables.exec = Jvm.exec) (hb : c.code = cc) (hG : xS G s) (hw : xW G H0 A L H locs) {k ci n b : Nat} (hk : xRA k ci n b) (ty : FieldType) (ht : (xtys G)[ci]? = some (xcT G ci, .array ty)) (hdg : decode cc pc = .ok (.arraylength, 1))
    (kk : W p l e R s m args below meth c H locs cells slots Q (F0 m (pc + 1) ls (.int (nI n) :: rest))) : W p l e R s m args below meth c H locs cells slots Q (F0 m pc ls (.ref (xad G k) :: rest)) :=
  va_alen hx hb hG.1 hw.1 k ci (cA := xcT G ci) (x := (n, .inr (.inr (.inr (.inr (xR (xad G) n b)))))) (by rw [xw_at hk.1]; unfold xE; rw [hk.2]) (ty := .array ty) ht rfl hdg kk
theorem x_iast (hx : p.tables.exec = Jvm.exec) (hb : c.code = cc) (hG : xS G s) (hw : xW G H0 A L H locs) {k n : Nat} (hk : xIA k n) {i x : Int32} (hin : vp_in i n) (hdg : decode cc pc = .ok (.iastore, 1))
    (kk : ∀ (A1 : xM) (H1 : Heap) (locs1 : List Loc), A1 = xu A k i.toNatClampNeg x → xW G H0 A1 L H1 locs1 → W p l e R s m args below meth c H1 locs1 cells slots Q (F0 m (pc + 1) ls rest)) : W p l e R s m args below meth c H locs cells slots Q (F0 m pc ls (.int x :: .int i :: .ref (xad G k) :: rest)) :=
  va_iast hx hb hG.1 hw.1 (xw_D hG _) hw.2 k 0 (f := A k) (cA := xcT G 0) (n := n) (by rw [xw_at hk.1]; unfold xE; rw [hk.2]) rfl hin hdg (fun H1 locs1 hP _ hS => kk _ H1 locs1 rfl ⟨by
    rw [xw_set hk.1, xE_up (f := upd (A k) i.toNatClampNeg x) (g := L k) (by rw [hk.2]), xu_up, va_up_same] at hP
    exact hP, hS⟩)
theorem x_cast (hx : p.tables.exec = Jvm.exec) (hb : c.code = cc) (hG : xS G s) (hw : xW G H0 A L H locs) {k n : Nat} (hk : xCA k n) {i x : Int32} (hin : vp_in i n) (hdg : decode cc pc = .ok (.castore, 1))
    (kk : ∀ (A1 : xM) (H1 : Heap) (locs1 : List Loc), A1 = xu A k i.toNatClampNeg (vp_nar .char x) → xW G H0 A1 L H1 locs1 → W p l e R s m args below meth c H1 locs1 cells slots Q (F0 m (pc + 1) ls rest)) : W p l e R s m args below meth c H locs cells slots Q (F0 m pc ls (.int x :: .int i :: .ref (xad G k) :: rest)) :=
  va_cast hx hb hG.1 hw.1 (xw_D hG _) hw.2 k 2 (f := A k) (cA := xcT G 2) (n := n) (by rw [xw_at hk.1]; unfold xE; rw [hk.2]) rfl hin hdg (fun H1 locs1 hP _ hS => kk _ H1 locs1 rfl ⟨by
    rw [xw_set hk.1, xE_up (f := upd (A k) i.toNatClampNeg (vp_nar .char x)) (g := L k) (by rw [hk.2]), xu_up, va_up_same] at hP
    exact hP, hS⟩)
theorem x_last (hx : p.tables.exec = Jvm.exec) (hb : c.code = cc) (hG : xS G s) (hw : xW G H0 A L H locs) {k n : Nat} (hk : xLA k n) {i : Int32} {x : Int64} (hin : vp_in i n) (hdg : decode cc pc = .ok (.lastore, 1))
    (kk : ∀ (L1 : xL) (H1 : Heap) (locs1 : List Loc), L1 = xul L k i.toNatClampNeg x → xW G H0 A L1 H1 locs1 → W p l e R s m args below meth c H1 locs1 cells slots Q (F0 m (pc + 1) ls rest)) : W p l e R s m args below meth c H locs cells slots Q (F0 m pc ls (.long x :: .int i :: .ref (xad G k) :: rest)) :=
  va_last hx hb hG.1 hw.1 (xw_D hG _) hw.2 k 1 (f := L k) (cA := xcT G 1) (n := n) (by rw [xw_at hk.1]; unfold xE; rw [hk.2]) rfl hin hdg (fun H1 locs1 hP _ hS => kk _ H1 locs1 rfl ⟨by
    rw [xw_set hk.1, xE_up (f := A k) (g := vp_updL (L k) i.toNatClampNeg x) (by rw [hk.2]), xul_up, va_up_same] at hP
    exact hP, hS⟩)
theorem x_get (hx : p.tables.exec = Jvm.exec) (hb : c.code = cc) {own C : String} {T : u_T} {N ci index : Nat} {Ts : List Cond} (hts : ∀ w ∈ Ts, w.before args s = true) (hin : ∀ w ∈ u_ws C T N, w ∈ Ts) (hown : s.vm.findClass own = some m.cls) (hG : xS G s) (hw : xW G H0 A L H locs) {k t : Nat} (hk : xOB k ci t) (hc : vwCl[ci]? = some (C, T, N)) (j : Nat) (hj : j < N) {ref : String} (hlink : (Cond.fieldLink own index ref (T j).2.1 (T j).2.2.1).before args s = true) (hsame : ∀ x, s.fieldFound? (T j).1 (T j).2.1 (T j).2.2.1 = some x → s.fieldFound? ref (T j).2.1 (T j).2.2.1 = some x) {v : Value} (hv : (xfs (xad G) (A k) t)[j]? = some v) (hdg : decode cc pc = .ok (.getfield index, 3))
    (kk : W p l e R s m args below meth c H locs cells slots Q (F0 m (pc + 3) ls (v :: rest))) : W p l e R s m args below meth c H locs cells slots Q (F0 m pc ls (.ref (xad G k) :: rest)) :=
  va_get hx hb hts hin hown hG.1 hw.1 k (by rw [xw_at hk.1]; unfold xE; rw [hk.2]) hc j hj hlink hsame hv hdg kk
theorem x_getN (hx : p.tables.exec = Jvm.exec) (hb : c.code = cc) {own C host : String} {T : u_T} {N ci index : Nat} {Ts : List Cond} (hts : ∀ w ∈ Ts, w.before args s = true) (hin : ∀ w ∈ u_ws C T N, w ∈ Ts) (hown : s.vm.findClass own = some m.cls) (hG : xS G s) (hw : xW G H0 A L H locs) {k t : Nat} (hk : xOB k ci t) (hc : vwCl[ci]? = some (C, T, N)) (j : Nat) (hj : j < N) {ref : String} (hlink : (Cond.fieldLinkNest own index ref (T j).2.1 (T j).2.2.1 host).before args s = true) (hsame : ∀ x, s.fieldFound? (T j).1 (T j).2.1 (T j).2.2.1 = some x → s.fieldFound? ref (T j).2.1 (T j).2.2.1 = some x) {v : Value} (hv : (xfs (xad G) (A k) t)[j]? = some v) (hdg : decode cc pc = .ok (.getfield index, 3))
    (kk : W p l e R s m args below meth c H locs cells slots Q (F0 m (pc + 3) ls (v :: rest))) : W p l e R s m args below meth c H locs cells slots Q (F0 m pc ls (.ref (xad G k) :: rest)) :=
  va_getN hx hb hts hin hown hG.1 hw.1 k (by rw [xw_at hk.1]; unfold xE; rw [hk.2]) hc j hj hlink hsame hv hdg kk
theorem x_put (hx : p.tables.exec = Jvm.exec) (hb : c.code = cc) {own C : String} {T : u_T} {N ci index : Nat} {Ts : List Cond} (hts : ∀ w ∈ Ts, w.before args s = true) (hin : ∀ w ∈ u_ws C T N, w ∈ Ts) (ty0 : Nat → FieldType) (hty : ∀ k, k < N → parseFieldDescriptor (T k).2.2.1 = some (ty0 k)) (hnm : ∀ a, a < N → ∀ b, b < N → a ≠ b → (T a).2.1 ≠ (T b).2.1) (hown : s.vm.findClass own = some m.cls) (hG : xS G s) (hw : xW G H0 A L H locs) {k t : Nat} (hk : xOB k ci t) (hc : vwCl[ci]? = some (C, T, N)) (j : Nat) (hj : j < N) {ref : String} (hlink : (Cond.fieldLink own index ref (T j).2.1 (T j).2.2.1).before args s = true) (hsame : ∀ x, s.fieldFound? (T j).1 (T j).2.1 (T j).2.2.1 = some x → s.fieldFound? ref (T j).2.1 (T j).2.2.1 = some x) (hfin : (T j).2.2.2 = false) {ty : FieldType} {v : Int32} (hd : parseFieldDescriptor (T j).2.2.1 = some ty) (hn : narrow ty (.int v) = .int v) (hfit : fits ty (.int v) = true) (hl : j < (xfs (xad G) (A k) t).length) (hset : (xfs (xad G) (A k) t).set j (.int v) = xfs (xad G) (upd (A k) j v) t) (hdg : decode cc pc = .ok (.putfield index, 3))
    (kk : ∀ (A1 : xM) (H1 : Heap) (locs1 : List Loc), A1 = xu A k j v → xW G H0 A1 L H1 locs1 → W p l e R s m args below meth c H1 locs1 cells slots Q (F0 m (pc + 3) ls rest)) : W p l e R s m args below meth c H locs cells slots Q (F0 m pc ls (.int v :: .ref (xad G k) :: rest)) :=
  va_put hx hb hts hin ty0 hty hnm hown hG.1 hw.1 (xw_D hG _) hw.2 k (by rw [xw_at hk.1]; unfold xE; rw [hk.2]) hc j hj hlink hsame hfin hd hn hfit hl hdg (fun H1 locs1 hP _ hS => kk _ H1 locs1 rfl ⟨by
    rw [xw_set hk.1, xE_up (f := upd (A k) j v) (g := L k) (by rw [hk.2, hset]), xu_up, va_up_same] at hP
    exact hP, hS⟩)
theorem x_putN (hx : p.tables.exec = Jvm.exec) (hb : c.code = cc) {own C host : String} {T : u_T} {N ci index : Nat} {Ts : List Cond} (hts : ∀ w ∈ Ts, w.before args s = true) (hin : ∀ w ∈ u_ws C T N, w ∈ Ts) (ty0 : Nat → FieldType) (hty : ∀ k, k < N → parseFieldDescriptor (T k).2.2.1 = some (ty0 k)) (hnm : ∀ a, a < N → ∀ b, b < N → a ≠ b → (T a).2.1 ≠ (T b).2.1) (hown : s.vm.findClass own = some m.cls) (hG : xS G s) (hw : xW G H0 A L H locs) {k t : Nat} (hk : xOB k ci t) (hc : vwCl[ci]? = some (C, T, N)) (j : Nat) (hj : j < N) {ref : String} (hlink : (Cond.fieldLinkNest own index ref (T j).2.1 (T j).2.2.1 host).before args s = true) (hsame : ∀ x, s.fieldFound? (T j).1 (T j).2.1 (T j).2.2.1 = some x → s.fieldFound? ref (T j).2.1 (T j).2.2.1 = some x) (hfin : (T j).2.2.2 = false) {ty : FieldType} {v : Int32} (hd : parseFieldDescriptor (T j).2.2.1 = some ty) (hn : narrow ty (.int v) = .int v) (hfit : fits ty (.int v) = true) (hl : j < (xfs (xad G) (A k) t).length) (hset : (xfs (xad G) (A k) t).set j (.int v) = xfs (xad G) (upd (A k) j v) t) (hdg : decode cc pc = .ok (.putfield index, 3))
    (kk : ∀ (A1 : xM) (H1 : Heap) (locs1 : List Loc), A1 = xu A k j v → xW G H0 A1 L H1 locs1 → W p l e R s m args below meth c H1 locs1 cells slots Q (F0 m (pc + 3) ls rest)) : W p l e R s m args below meth c H locs cells slots Q (F0 m pc ls (.int v :: .ref (xad G k) :: rest)) :=
  va_putN hx hb hts hin ty0 hty hnm hown hG.1 hw.1 (xw_D hG _) hw.2 k (by rw [xw_at hk.1]; unfold xE; rw [hk.2]) hc j hj hlink hsame hfin hd hn hfit hl hdg (fun H1 locs1 hP _ hS => kk _ H1 locs1 rfl ⟨by
    rw [xw_set hk.1, xE_up (f := upd (A k) j v) (g := L k) (by rw [hk.2, hset]), xu_up, va_up_same] at hP
    exact hP, hS⟩)
theorem x_recv (hG : xS G s) (hw : xW G H0 A L H locs) {k ci t : Nat} (hk : xOB k ci t) {q : vw_C} (hc : vwCl[ci]? = some q) : ∃ cell : Cell, H[xad G k]? = some cell ∧ cell.vm.isStatics = false ∧ s.vm.findClass q.1 = some cell.cls :=
  va_recv hG.1 hw.1 (ci := ci) (q0 := k) (a := xad G k) (fs := xfs (xad G) (A k) t) hc (by rw [xw_at hk.1]; unfold xE; rw [hk.2])
/-- ends -/
theorem x_iret (hx : p.tables.exec = Jvm.exec) (hb : c.code = cc) (hr : meth.sig.returnType = some .int) (hlocks : meth.locks = false) (hG : xS G s) (hw : xW G s.heap A L H locs) {post : Int32 → xM → xL → Prop} {v : Int32} (h : post v A L) (hdg : decode cc pc = .ok (.ireturn, 1)) : W p l e R s m args below meth c H locs cells slots (MQ below (xQi G post) args s cells slots (xAf G)) (F0 m pc ls [.int v]) :=
  W.iret hx hb hr (fun t ht hW => ⟨⟨v, (A, L), rfl, h, by rw [ht]; exact hw.1, xS.moved hW hG⟩, hw.2.F ht⟩) hw.2.2.2 hdg hlocks
theorem x_zret (hx : p.tables.exec = Jvm.exec) (hb : c.code = cc) (hr : meth.sig.returnType = some .boolean) (hlocks : meth.locks = false) (hG : xS G s) (hw : xW G s.heap A L H locs) {post : Int32 → xM → xL → Prop} {v : Int32} (h01 : v = 0 ∨ v = 1) (h : post v A L) (hdg : decode cc pc = .ok (.ireturn, 1)) : W p l e R s m args below meth c H locs cells slots (MQ below (xQi G post) args s cells slots (xAf G)) (F0 m pc ls [.int v]) :=
  W.zret hx hb hr (by rcases h01 with rfl | rfl <;> rfl) (fun t ht hW => ⟨⟨v, (A, L), rfl, h, by rw [ht]; exact hw.1, xS.moved hW hG⟩, hw.2.F ht⟩) hw.2.2.2 hdg hlocks
theorem x_lret (hx : p.tables.exec = Jvm.exec) (hb : c.code = cc) (hr : meth.sig.returnType = some .long) (hlocks : meth.locks = false) (hG : xS G s) (hw : xW G s.heap A L H locs) {post : Int64 → xM → xL → Prop} {v : Int64} (h : post v A L) (hdg : decode cc pc = .ok (.lreturn, 1)) : W p l e R s m args below meth c H locs cells slots (MQ below (xQl G post) args s cells slots (xAf G)) (F0 m pc ls [.long v]) :=
  W.lret hx hb hr (fun t ht hW => ⟨⟨v, (A, L), rfl, h, by rw [ht]; exact hw.1, xS.moved hW hG⟩, hw.2.F ht⟩) hw.2.2.2 hdg hlocks
theorem x_vret (hx : p.tables.exec = Jvm.exec) (hb : c.code = cc) (hr : meth.sig.returnType = none) (hlocks : meth.locks = false) (hG : xS G s) (hw : xW G s.heap A L H locs) {post : xM → xL → Prop} (h : post A L) (hdg : decode cc pc = .ok (.return_, 1)) : W p l e R s m args below meth c H locs cells slots (MQ below (xQv G post) args s cells slots (xAf G)) (F0 m pc ls []) :=
  W.vret hx hb hr (fun t ht hW => ⟨⟨(A, L), rfl, h, by rw [ht]; exact hw.1, xS.moved hW hG⟩, hw.2.F ht⟩) hw.2.2.2 hdg hlocks
/-- behind a call -/
theorem x_calli {mc ms : Nat} {st0 : List Value} {a : Array Value} {post : Int32 → xM → xL → Prop} (hG : xS G s) (hw : xW G s.heap A L H locs) (hr : va_Run p l e R s m args below meth c H locs cells slots 0 0 (F0 m pc ls st0) rest (xQi G post a) (xAf G))
    (kk : ∀ (r : Int32) (A1 : xM) (L1 : xL) (H1 : Heap) (locs1 : List Loc), xW G s.heap A1 L1 H1 locs1 → post r A1 L1 → W p l e R s m args below meth c H1 locs1 cells slots Q (F0 m (pc + 3) ls (.int r :: rest))) : W p l e R s m args below meth c H locs cells slots Q (F0 m pc ls st0) :=
  va_calli hr hw.2 (fun _ _ h => h) (fun _ h => h) (fun r u t H1 locs1 ht _ hp hB _ _ hS => kk r u.1 u.2 H1 locs1 ⟨by rw [← ht]; exact hB.1, hS⟩ hp)
theorem x_calll {mc ms : Nat} {st0 : List Value} {a : Array Value} {post : Int64 → xM → xL → Prop} (hG : xS G s) (hw : xW G s.heap A L H locs) (hr : va_Run p l e R s m args below meth c H locs cells slots 0 0 (F0 m pc ls st0) rest (xQl G post a) (xAf G))
    (kk : ∀ (r : Int64) (A1 : xM) (L1 : xL) (H1 : Heap) (locs1 : List Loc), xW G s.heap A1 L1 H1 locs1 → post r A1 L1 → W p l e R s m args below meth c H1 locs1 cells slots Q (F0 m (pc + 3) ls (.long r :: rest))) : W p l e R s m args below meth c H locs cells slots Q (F0 m pc ls st0) :=
  va_calll hr hw.2 (fun _ _ h => h) (fun _ h => h) (fun r u t H1 locs1 ht _ hp hB _ _ hS => kk r u.1 u.2 H1 locs1 ⟨by rw [← ht]; exact hB.1, hS⟩ hp)
theorem x_callv {mc ms : Nat} {st0 : List Value} {a : Array Value} {post : xM → xL → Prop} (hG : xS G s) (hw : xW G s.heap A L H locs) (hr : va_Run p l e R s m args below meth c H locs cells slots 0 0 (F0 m pc ls st0) rest (xQv G post a) (xAf G))
    (kk : ∀ (A1 : xM) (L1 : xL) (H1 : Heap) (locs1 : List Loc), xW G s.heap A1 L1 H1 locs1 → post A1 L1 → W p l e R s m args below meth c H1 locs1 cells slots Q (F0 m (pc + 3) ls rest)) : W p l e R s m args below meth c H locs cells slots Q (F0 m pc ls st0) :=
  va_callv hr hw.2 (fun _ _ h => h) (fun _ h => h) (fun u t H1 locs1 ht _ hp hB _ _ hS => kk u.1 u.2 H1 locs1 ⟨by rw [← ht]; exact hB.1, hS⟩ hp)
/-- what a callee may take for granted -/
theorem x_preV (hG : xS G s) (hw : xW G s.heap A L H locs) {k ci t : Nat} (hk : xOB k ci t) {C : String} {T : u_T} {N : Nat} (hc : vwCl[ci]? = some (C, T, N)) {As : List Value} : PreV s H C (xad G k) (va_Pc (.ref (xad G k) :: As) (xPre G A L)) As :=
  ⟨xPre_blind, x_recv hG hw hk hc, fun U hU hW => ⟨rfl, by show va_P _ _ _ U.heap; rw [hU]; exact hw.1, xS.moved hW hG⟩⟩
theorem x_preS (hG : xS G s) (hw : xW G s.heap A L H locs) {As : List Value} : PreS s H (va_Pc As (xPre G A L)) As :=
  ⟨xPre_blind, fun U hU hW => ⟨rfl, by show va_P _ _ _ U.heap; rw [hU]; exact hw.1, xS.moved hW hG⟩⟩
end XR
/-- a contract out of the walk from the entry -/
theorem x_met {l : Launch} {G : xGt} {A : xM} {L : xL} {y : MethodName} {ws ws' : List Cond} {rm : Room} {cc : ByteArray} {maxL : Nat} {ret : Option FieldType} {av : List Value} {Qc : Array Value → State → Outcome → State → Prop} (own : String) (hown : y.cls = own) (hy : plainName y.cls = true) (hw : ws = Cond.code y cc maxL ret :: ws') (hav : (lg_sl av).length ≤ maxL)
    (body : ∀ (p : Program) (e : Env) (s : State) (m : MethodId) (below : List Frame) (meth : Method) (c : Code) (ls : Array Slot), xC p s m av.toArray meth c G cc ret ws own maxL → xW G s.heap A L s.heap [] → lv_has ls maxL (lv_args 0 av) →
      W p l e rm s m av.toArray below meth c s.heap [] 0 0 (MQ below Qc av.toArray s 0 0 (xAf G)) (F0 m 0 ls [])) : Met l y ws rm (va_Pc av (xPre G A L)) Qc 0 0 (xAf G) := by
  refine Met.ofW (cc := cc) (maxL := maxL) (ret := ret) hy hw ?_
  intro p e s m args below meth c s₁ B hml hv
  obtain ⟨rfl, hP, hG⟩ := hv
  have hl := lv_entry av (n := maxL) hav
  rw [lg_entry_eq]
  exact body p e s m below meth c _ ⟨B.exec, B.bytes, B.returns, atoms_spec (ws := ws) B.pre, by rw [← hown]; exact findClass_of_methodNamed B.named, hml, B.notSynchronized, hG⟩ ⟨hP, va_S.rf⟩ hl
end
