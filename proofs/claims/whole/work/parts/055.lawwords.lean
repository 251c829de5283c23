set_option maxRecDepth 100000 in
theorem mw_50 : (.code yX5_init cX5_init 1 none : Cond) ∈ lw_tbl := List.mem_of_getElem? (i := 50) rfl
set_option maxRecDepth 100000 in
theorem mw_174 : (.fieldLink RX5 47 "SixNumbers" "chain" "LSixNumbers$Signs;" : Cond) ∈ lw_tbl := List.mem_of_getElem? (i := 174) rfl
set_option maxRecDepth 100000 in
theorem mw_38 : (.initialized RX4 : Cond) ∈ lw_tbl := List.mem_of_getElem? (i := 38) rfl
set_option maxRecDepth 100000 in
theorem mw_151 : (.instantiable RX4 4 : Cond) ∈ lw_tbl := List.mem_of_getElem? (i := 151) rfl
set_option maxRecDepth 100000 in
theorem mw_150 : (.classLink RX5 44 RX4 : Cond) ∈ lw_tbl := List.mem_of_getElem? (i := 150) rfl
set_option maxRecDepth 100000 in
theorem mw_173 : (.fieldLink RX5 40 "SixNumbers" "bytes" "LSixNumbers$Out;" : Cond) ∈ lw_tbl := List.mem_of_getElem? (i := 173) rfl
set_option maxRecDepth 100000 in
theorem mw_37 : (.initialized RX2 : Cond) ∈ lw_tbl := List.mem_of_getElem? (i := 37) rfl
set_option maxRecDepth 100000 in
theorem mw_136 : (.instantiable RX2 2 : Cond) ∈ lw_tbl := List.mem_of_getElem? (i := 136) rfl
set_option maxRecDepth 100000 in
theorem mw_135 : (.classLink RX5 37 RX2 : Cond) ∈ lw_tbl := List.mem_of_getElem? (i := 135) rfl
set_option maxRecDepth 100000 in
theorem mw_172 : (.fieldLink RX5 33 "SixNumbers" "box" "LSixNumbers$Box;" : Cond) ∈ lw_tbl := List.mem_of_getElem? (i := 172) rfl
set_option maxRecDepth 100000 in
theorem mw_36 : (.initialized RX0 : Cond) ∈ lw_tbl := List.mem_of_getElem? (i := 36) rfl
set_option maxRecDepth 100000 in
theorem mw_109 : (.instantiable RX0 6 : Cond) ∈ lw_tbl := List.mem_of_getElem? (i := 109) rfl
set_option maxRecDepth 100000 in
theorem mw_108 : (.classLink RX5 28 RX0 : Cond) ∈ lw_tbl := List.mem_of_getElem? (i := 108) rfl
set_option maxRecDepth 100000 in
theorem mw_171 : (.fieldLink RX5 25 "SixNumbers" "trial" "LSixNumbers$Heap;" : Cond) ∈ lw_tbl := List.mem_of_getElem? (i := 171) rfl
set_option maxRecDepth 100000 in
theorem mw_170 : (.fieldLink RX5 21 "SixNumbers" "heap" "LSixNumbers$Heap;" : Cond) ∈ lw_tbl := List.mem_of_getElem? (i := 170) rfl
set_option maxRecDepth 100000 in
theorem mw_35 : (.initialized RX1 : Cond) ∈ lw_tbl := List.mem_of_getElem? (i := 35) rfl
set_option maxRecDepth 100000 in
theorem mw_71 : (.instantiable RX1 8 : Cond) ∈ lw_tbl := List.mem_of_getElem? (i := 71) rfl
set_option maxRecDepth 100000 in
theorem mw_70 : (.classLink RX5 16 RX1 : Cond) ∈ lw_tbl := List.mem_of_getElem? (i := 70) rfl
set_option maxRecDepth 100000 in
theorem mw_169 : (.fieldLink RX5 10 "SixNumbers" "rules" "LSixNumbers$Rules;" : Cond) ∈ lw_tbl := List.mem_of_getElem? (i := 169) rfl
set_option maxRecDepth 100000 in
theorem mw_34 : (.initialized RX3 : Cond) ∈ lw_tbl := List.mem_of_getElem? (i := 34) rfl
set_option maxRecDepth 100000 in
theorem mw_55 : (.instantiable RX3 2 : Cond) ∈ lw_tbl := List.mem_of_getElem? (i := 55) rfl
set_option maxRecDepth 100000 in
theorem mw_54 : (.classLink RX5 7 RX3 : Cond) ∈ lw_tbl := List.mem_of_getElem? (i := 54) rfl
set_option maxRecDepth 100000 in
theorem mw_53 : (.code objectInit ⟨#[0xb1]⟩ 1 none : Cond) ∈ lw_tbl := List.mem_of_getElem? (i := 53) rfl
set_option maxRecDepth 100000 in
theorem mw_52 : (.instanceMethod objectInit : Cond) ∈ lw_tbl := List.mem_of_getElem? (i := 52) rfl
set_option maxRecDepth 100000 in
theorem mw_51 : (.methodLink RX5 1 objectInit : Cond) ∈ lw_tbl := List.mem_of_getElem? (i := 51) rfl
set_option maxRecDepth 100000 in
theorem inT_wsX5_init_r1 : ∀ w ∈ wsX5_init_r1, w ∈ lw_tbl := (List.forall_mem_cons.mpr ⟨mw_51, (List.forall_mem_cons.mpr ⟨mw_52, (List.forall_mem_cons.mpr ⟨mw_53, (List.forall_mem_cons.mpr ⟨mw_54, (List.forall_mem_cons.mpr ⟨mw_55, (List.forall_mem_cons.mpr ⟨mw_34, (List.forall_mem_cons.mpr ⟨mw_169, (List.forall_mem_cons.mpr ⟨mw_70, (List.forall_mem_cons.mpr ⟨mw_71, (List.forall_mem_cons.mpr ⟨mw_35, (List.forall_mem_cons.mpr ⟨mw_170, (List.forall_mem_cons.mpr ⟨mw_171, (List.forall_mem_cons.mpr ⟨mw_108, (List.forall_mem_cons.mpr ⟨mw_109, (List.forall_mem_cons.mpr ⟨mw_36, (List.forall_mem_cons.mpr ⟨mw_172, (List.forall_mem_cons.mpr ⟨mw_135, (List.forall_mem_cons.mpr ⟨mw_136, (List.forall_mem_cons.mpr ⟨mw_37, (List.forall_mem_cons.mpr ⟨mw_173, (List.forall_mem_cons.mpr ⟨mw_150, (List.forall_mem_cons.mpr ⟨mw_151, (List.forall_mem_cons.mpr ⟨mw_38, (List.forall_mem_cons.mpr ⟨mw_174, (fun _ h => absurd h List.not_mem_nil)⟩)⟩)⟩)⟩)⟩)⟩)⟩)⟩)⟩)⟩)⟩)⟩)⟩)⟩)⟩)⟩)⟩)⟩)⟩)⟩)⟩)⟩)⟩)⟩)
set_option maxRecDepth 100000 in
theorem mw_112 : (.code yX0_init cX0_init 2 none : Cond) ∈ lw_tbl := List.mem_of_getElem? (i := 112) rfl
set_option maxRecDepth 100000 in
theorem mw_111 : (.instanceMethod yX0_init : Cond) ∈ lw_tbl := List.mem_of_getElem? (i := 111) rfl
set_option maxRecDepth 100000 in
theorem mw_110 : (.methodLink RX5 30 yX0_init : Cond) ∈ lw_tbl := List.mem_of_getElem? (i := 110) rfl
set_option maxRecDepth 100000 in
theorem mw_85 : (.fieldLink RX1 39 "SixNumbers$Heap" "holders" "[I" : Cond) ∈ lw_tbl := List.mem_of_getElem? (i := 85) rfl
set_option maxRecDepth 100000 in
theorem mw_84 : (.fieldLink RX1 36 "SixNumbers$Heap" "founds" "[I" : Cond) ∈ lw_tbl := List.mem_of_getElem? (i := 84) rfl
set_option maxRecDepth 100000 in
theorem mw_83 : (.fieldLink RX1 33 "SixNumbers$Heap" "found" "[[I" : Cond) ∈ lw_tbl := List.mem_of_getElem? (i := 83) rfl
set_option maxRecDepth 100000 in
theorem mw_78 : (.classLink RX1 31 "[[I" : Cond) ∈ lw_tbl := List.mem_of_getElem? (i := 78) rfl
set_option maxRecDepth 100000 in
theorem mw_82 : (.fieldLink RX1 28 "SixNumbers$Heap" "counts" "[[J" : Cond) ∈ lw_tbl := List.mem_of_getElem? (i := 82) rfl
set_option maxRecDepth 100000 in
theorem mw_107 : (.arrayClass .long : Cond) ∈ lw_tbl := List.mem_of_getElem? (i := 107) rfl
set_option maxRecDepth 100000 in
theorem mw_76 : (.classLink RX1 26 "[[J" : Cond) ∈ lw_tbl := List.mem_of_getElem? (i := 76) rfl
set_option maxRecDepth 100000 in
theorem mw_81 : (.fieldLink RX1 22 "SixNumbers$Heap" "items" "[I" : Cond) ∈ lw_tbl := List.mem_of_getElem? (i := 81) rfl
set_option maxRecDepth 100000 in
theorem mw_106 : (.arrayClass .int : Cond) ∈ lw_tbl := List.mem_of_getElem? (i := 106) rfl
set_option maxRecDepth 100000 in
theorem mw_80 : (.fieldLink RX1 18 "SixNumbers$Heap" "rules" "LSixNumbers$Rules;" : Cond) ∈ lw_tbl := List.mem_of_getElem? (i := 80) rfl
set_option maxRecDepth 100000 in
theorem mw_88 : (.fieldLink RX1 15 "SixNumbers$Heap" "changed" "I" : Cond) ∈ lw_tbl := List.mem_of_getElem? (i := 88) rfl
set_option maxRecDepth 100000 in
theorem mw_86 : (.fieldLink RX1 9 "SixNumbers$Heap" "size" "I" : Cond) ∈ lw_tbl := List.mem_of_getElem? (i := 86) rfl
set_option maxRecDepth 100000 in
theorem mw_75 : (.methodLink RX1 3 objectInit : Cond) ∈ lw_tbl := List.mem_of_getElem? (i := 75) rfl
set_option maxRecDepth 100000 in
theorem mw_74 : (.code yX1_init cX1_init 3 none : Cond) ∈ lw_tbl := List.mem_of_getElem? (i := 74) rfl
set_option maxRecDepth 100000 in
theorem mw_73 : (.instanceMethod yX1_init : Cond) ∈ lw_tbl := List.mem_of_getElem? (i := 73) rfl
set_option maxRecDepth 100000 in
theorem mw_72 : (.methodLink RX5 18 yX1_init : Cond) ∈ lw_tbl := List.mem_of_getElem? (i := 72) rfl
set_option maxRecDepth 100000 in
theorem mw_62 : (.fieldLink RX3 15 "SixNumbers$Rules" "most" "I" : Cond) ∈ lw_tbl := List.mem_of_getElem? (i := 62) rfl
set_option maxRecDepth 100000 in
theorem mw_60 : (.fieldLink RX3 9 "SixNumbers$Rules" "acts" "I" : Cond) ∈ lw_tbl := List.mem_of_getElem? (i := 60) rfl
set_option maxRecDepth 100000 in
theorem mw_59 : (.methodLink RX3 3 objectInit : Cond) ∈ lw_tbl := List.mem_of_getElem? (i := 59) rfl
set_option maxRecDepth 100000 in
theorem mw_58 : (.code yX3_init cX3_init 1 none : Cond) ∈ lw_tbl := List.mem_of_getElem? (i := 58) rfl
set_option maxRecDepth 100000 in
theorem mw_57 : (.instanceMethod yX3_init : Cond) ∈ lw_tbl := List.mem_of_getElem? (i := 57) rfl
set_option maxRecDepth 100000 in
theorem inT_wsX5_init_r2 : ∀ w ∈ wsX5_init_r2, w ∈ lw_tbl := (List.forall_mem_cons.mpr ⟨mw_57, (List.forall_mem_cons.mpr ⟨mw_58, (List.forall_mem_cons.mpr ⟨mw_59, (List.forall_mem_cons.mpr ⟨mw_60, (List.forall_mem_cons.mpr ⟨mw_62, (List.forall_mem_cons.mpr ⟨mw_72, (List.forall_mem_cons.mpr ⟨mw_73, (List.forall_mem_cons.mpr ⟨mw_74, (List.forall_mem_cons.mpr ⟨mw_75, (List.forall_mem_cons.mpr ⟨mw_86, (List.forall_mem_cons.mpr ⟨mw_88, (List.forall_mem_cons.mpr ⟨mw_80, (List.forall_mem_cons.mpr ⟨mw_106, (List.forall_mem_cons.mpr ⟨mw_81, (List.forall_mem_cons.mpr ⟨mw_76, (List.forall_mem_cons.mpr ⟨mw_107, (List.forall_mem_cons.mpr ⟨mw_82, (List.forall_mem_cons.mpr ⟨mw_78, (List.forall_mem_cons.mpr ⟨mw_83, (List.forall_mem_cons.mpr ⟨mw_84, (List.forall_mem_cons.mpr ⟨mw_85, (List.forall_mem_cons.mpr ⟨mw_110, (List.forall_mem_cons.mpr ⟨mw_111, (List.forall_mem_cons.mpr ⟨mw_112, (fun _ h => absurd h List.not_mem_nil)⟩)⟩)⟩)⟩)⟩)⟩)⟩)⟩)⟩)⟩)⟩)⟩)⟩)⟩)⟩)⟩)⟩)⟩)⟩)⟩)⟩)⟩)⟩)⟩)
set_option maxRecDepth 100000 in
theorem mw_159 : (.fieldLink RX4 22 "SixNumbers$Signs" "from" "I" : Cond) ∈ lw_tbl := List.mem_of_getElem? (i := 159) rfl
set_option maxRecDepth 100000 in
theorem mw_158 : (.fieldLink RX4 18 "SixNumbers$Signs" "waiting" "I" : Cond) ∈ lw_tbl := List.mem_of_getElem? (i := 158) rfl
set_option maxRecDepth 100000 in
theorem mw_157 : (.fieldLink RX4 15 "SixNumbers$Signs" "queue" "[I" : Cond) ∈ lw_tbl := List.mem_of_getElem? (i := 157) rfl
set_option maxRecDepth 100000 in
theorem mw_156 : (.fieldLink RX4 9 "SixNumbers$Signs" "steps" "[I" : Cond) ∈ lw_tbl := List.mem_of_getElem? (i := 156) rfl
set_option maxRecDepth 100000 in
theorem mw_155 : (.methodLink RX4 3 objectInit : Cond) ∈ lw_tbl := List.mem_of_getElem? (i := 155) rfl
set_option maxRecDepth 100000 in
theorem mw_154 : (.code yX4_init cX4_init 1 none : Cond) ∈ lw_tbl := List.mem_of_getElem? (i := 154) rfl
set_option maxRecDepth 100000 in
theorem mw_153 : (.instanceMethod yX4_init : Cond) ∈ lw_tbl := List.mem_of_getElem? (i := 153) rfl
set_option maxRecDepth 100000 in
theorem mw_142 : (.fieldLink RX2 15 "SixNumbers$Out" "length" "I" : Cond) ∈ lw_tbl := List.mem_of_getElem? (i := 142) rfl
set_option maxRecDepth 100000 in
theorem mw_141 : (.fieldLink RX2 9 "SixNumbers$Out" "text" "[C" : Cond) ∈ lw_tbl := List.mem_of_getElem? (i := 141) rfl
set_option maxRecDepth 100000 in
theorem mw_149 : (.arrayClass .char : Cond) ∈ lw_tbl := List.mem_of_getElem? (i := 149) rfl
set_option maxRecDepth 100000 in
theorem mw_140 : (.methodLink RX2 3 objectInit : Cond) ∈ lw_tbl := List.mem_of_getElem? (i := 140) rfl
set_option maxRecDepth 100000 in
theorem mw_139 : (.code yX2_init cX2_init 1 none : Cond) ∈ lw_tbl := List.mem_of_getElem? (i := 139) rfl
set_option maxRecDepth 100000 in
theorem mw_138 : (.instanceMethod yX2_init : Cond) ∈ lw_tbl := List.mem_of_getElem? (i := 138) rfl
set_option maxRecDepth 100000 in
theorem mw_115 : (.fieldLink RX0 30 "SixNumbers$Box" "trial" "LSixNumbers$Heap;" : Cond) ∈ lw_tbl := List.mem_of_getElem? (i := 115) rfl
set_option maxRecDepth 100000 in
theorem mw_121 : (.fieldLink RX0 27 "SixNumbers$Box" "counted" "I" : Cond) ∈ lw_tbl := List.mem_of_getElem? (i := 121) rfl
set_option maxRecDepth 100000 in
theorem mw_120 : (.fieldLink RX0 24 "SixNumbers$Box" "totals" "[I" : Cond) ∈ lw_tbl := List.mem_of_getElem? (i := 120) rfl
set_option maxRecDepth 100000 in
theorem mw_119 : (.fieldLink RX0 21 "SixNumbers$Box" "tallies" "[[I" : Cond) ∈ lw_tbl := List.mem_of_getElem? (i := 119) rfl
set_option maxRecDepth 100000 in
theorem mw_114 : (.classLink RX0 19 "[[I" : Cond) ∈ lw_tbl := List.mem_of_getElem? (i := 114) rfl
set_option maxRecDepth 100000 in
theorem mw_117 : (.fieldLink RX0 15 "SixNumbers$Box" "size" "I" : Cond) ∈ lw_tbl := List.mem_of_getElem? (i := 117) rfl
set_option maxRecDepth 100000 in
theorem mw_116 : (.fieldLink RX0 9 "SixNumbers$Box" "cards" "[I" : Cond) ∈ lw_tbl := List.mem_of_getElem? (i := 116) rfl
set_option maxRecDepth 100000 in
theorem mw_113 : (.methodLink RX0 3 objectInit : Cond) ∈ lw_tbl := List.mem_of_getElem? (i := 113) rfl
set_option maxRecDepth 100000 in
theorem inT_wsX5_init_r3 : ∀ w ∈ wsX5_init_r3, w ∈ lw_tbl := (List.forall_mem_cons.mpr ⟨mw_113, (List.forall_mem_cons.mpr ⟨mw_116, (List.forall_mem_cons.mpr ⟨mw_117, (List.forall_mem_cons.mpr ⟨mw_114, (List.forall_mem_cons.mpr ⟨mw_119, (List.forall_mem_cons.mpr ⟨mw_120, (List.forall_mem_cons.mpr ⟨mw_121, (List.forall_mem_cons.mpr ⟨mw_115, (List.forall_mem_cons.mpr ⟨mw_138, (List.forall_mem_cons.mpr ⟨mw_139, (List.forall_mem_cons.mpr ⟨mw_140, (List.forall_mem_cons.mpr ⟨mw_149, (List.forall_mem_cons.mpr ⟨mw_141, (List.forall_mem_cons.mpr ⟨mw_142, (List.forall_mem_cons.mpr ⟨mw_153, (List.forall_mem_cons.mpr ⟨mw_154, (List.forall_mem_cons.mpr ⟨mw_155, (List.forall_mem_cons.mpr ⟨mw_156, (List.forall_mem_cons.mpr ⟨mw_157, (List.forall_mem_cons.mpr ⟨mw_158, (List.forall_mem_cons.mpr ⟨mw_159, (fun _ h => absurd h List.not_mem_nil)⟩)⟩)⟩)⟩)⟩)⟩)⟩)⟩)⟩)⟩)⟩)⟩)⟩)⟩)⟩)⟩)⟩)⟩)⟩)⟩)⟩)
set_option maxRecDepth 100000 in
theorem inT_X3 : ∀ w ∈ wsX30, w ∈ lw_tbl := by
  show ∀ w ∈ [u_lay RX3 TX3 0, u_lay RX3 TX3 1], w ∈ lw_tbl
  exact List.forall_mem_cons.mpr ⟨List.mem_of_getElem? (i := 65) rfl, List.forall_mem_cons.mpr ⟨List.mem_of_getElem? (i := 67) rfl, fun _ h => absurd h List.not_mem_nil⟩⟩
set_option maxRecDepth 100000 in
theorem inT_X5 : ∀ w ∈ wsX50, w ∈ lw_tbl := by
  show ∀ w ∈ [u_lay RX5 TX5 0, u_lay RX5 TX5 1, u_lay RX5 TX5 2, u_lay RX5 TX5 3, u_lay RX5 TX5 4, u_lay RX5 TX5 5], w ∈ lw_tbl
  exact List.forall_mem_cons.mpr ⟨List.mem_of_getElem? (i := 175) rfl, List.forall_mem_cons.mpr ⟨List.mem_of_getElem? (i := 177) rfl, List.forall_mem_cons.mpr ⟨List.mem_of_getElem? (i := 179) rfl, List.forall_mem_cons.mpr ⟨List.mem_of_getElem? (i := 181) rfl, List.forall_mem_cons.mpr ⟨List.mem_of_getElem? (i := 183) rfl, List.forall_mem_cons.mpr ⟨List.mem_of_getElem? (i := 185) rfl, fun _ h => absurd h List.not_mem_nil⟩⟩⟩⟩⟩⟩
set_option maxRecDepth 100000 in
theorem inT_X1 : ∀ w ∈ wsX10, w ∈ lw_tbl := by
  show ∀ w ∈ [u_lay RX1 TX1 0, u_lay RX1 TX1 1, u_lay RX1 TX1 2, u_lay RX1 TX1 3, u_lay RX1 TX1 4, u_lay RX1 TX1 5, u_lay RX1 TX1 6, u_lay RX1 TX1 7], w ∈ lw_tbl
  exact List.forall_mem_cons.mpr ⟨List.mem_of_getElem? (i := 89) rfl, List.forall_mem_cons.mpr ⟨List.mem_of_getElem? (i := 91) rfl, List.forall_mem_cons.mpr ⟨List.mem_of_getElem? (i := 93) rfl, List.forall_mem_cons.mpr ⟨List.mem_of_getElem? (i := 95) rfl, List.forall_mem_cons.mpr ⟨List.mem_of_getElem? (i := 97) rfl, List.forall_mem_cons.mpr ⟨List.mem_of_getElem? (i := 99) rfl, List.forall_mem_cons.mpr ⟨List.mem_of_getElem? (i := 101) rfl, List.forall_mem_cons.mpr ⟨List.mem_of_getElem? (i := 103) rfl, fun _ h => absurd h List.not_mem_nil⟩⟩⟩⟩⟩⟩⟩⟩
set_option maxRecDepth 100000 in
theorem inT_X0 : ∀ w ∈ wsX00, w ∈ lw_tbl := by
  show ∀ w ∈ [u_lay RX0 TX0 0, u_lay RX0 TX0 1, u_lay RX0 TX0 2, u_lay RX0 TX0 3, u_lay RX0 TX0 4, u_lay RX0 TX0 5], w ∈ lw_tbl
  exact List.forall_mem_cons.mpr ⟨List.mem_of_getElem? (i := 122) rfl, List.forall_mem_cons.mpr ⟨List.mem_of_getElem? (i := 124) rfl, List.forall_mem_cons.mpr ⟨List.mem_of_getElem? (i := 126) rfl, List.forall_mem_cons.mpr ⟨List.mem_of_getElem? (i := 128) rfl, List.forall_mem_cons.mpr ⟨List.mem_of_getElem? (i := 130) rfl, List.forall_mem_cons.mpr ⟨List.mem_of_getElem? (i := 132) rfl, fun _ h => absurd h List.not_mem_nil⟩⟩⟩⟩⟩⟩
set_option maxRecDepth 100000 in
theorem inT_X2 : ∀ w ∈ wsX20, w ∈ lw_tbl := by
  show ∀ w ∈ [u_lay RX2 TX2 0, u_lay RX2 TX2 1], w ∈ lw_tbl
  exact List.forall_mem_cons.mpr ⟨List.mem_of_getElem? (i := 144) rfl, List.forall_mem_cons.mpr ⟨List.mem_of_getElem? (i := 146) rfl, fun _ h => absurd h List.not_mem_nil⟩⟩
set_option maxRecDepth 100000 in
theorem inT_X4 : ∀ w ∈ wsX40, w ∈ lw_tbl := by
  show ∀ w ∈ [u_lay RX4 TX4 0, u_lay RX4 TX4 1, u_lay RX4 TX4 2, u_lay RX4 TX4 3], w ∈ lw_tbl
  exact List.forall_mem_cons.mpr ⟨List.mem_of_getElem? (i := 160) rfl, List.forall_mem_cons.mpr ⟨List.mem_of_getElem? (i := 162) rfl, List.forall_mem_cons.mpr ⟨List.mem_of_getElem? (i := 164) rfl, List.forall_mem_cons.mpr ⟨List.mem_of_getElem? (i := 166) rfl, fun _ h => absurd h List.not_mem_nil⟩⟩⟩⟩
set_option maxRecDepth 100000 in
theorem inT_wsX5_init : ∀ w ∈ wsX5_init, w ∈ lw_tbl := (List.forall_mem_cons.mpr ⟨mw_50, (List.forall_mem_append.mpr ⟨(List.forall_mem_append.mpr ⟨(List.forall_mem_append.mpr ⟨(List.forall_mem_append.mpr ⟨(List.forall_mem_append.mpr ⟨(List.forall_mem_append.mpr ⟨(List.forall_mem_append.mpr ⟨inT_wsX5_init_r1, (List.forall_mem_append.mpr ⟨inT_wsX5_init_r2, inT_wsX5_init_r3⟩)⟩), inT_X3⟩), inT_X5⟩), inT_X1⟩), inT_X0⟩), inT_X2⟩), inT_X4⟩)⟩)
set_option maxRecDepth 100000 in
theorem gT_X5_init : GoodIn lw_tbl wsX5_init := goodIn_sub inT_wsX5_init (by decide +kernel)
set_option maxRecDepth 100000 in
theorem mw_527 : (.code yX6_init cX6_init 1 none : Cond) ∈ lw_tbl := List.mem_of_getElem? (i := 527) rfl
set_option maxRecDepth 100000 in
theorem mw_549 : (.fieldLink RX6 52 "SixNumbersModel" "line" "[I" : Cond) ∈ lw_tbl := List.mem_of_getElem? (i := 549) rfl
set_option maxRecDepth 100000 in
theorem mw_548 : (.fieldLink RX6 49 "SixNumbersModel" "far" "[I" : Cond) ∈ lw_tbl := List.mem_of_getElem? (i := 548) rfl
set_option maxRecDepth 100000 in
theorem mw_547 : (.fieldLink RX6 46 "SixNumbersModel" "counts" "[I" : Cond) ∈ lw_tbl := List.mem_of_getElem? (i := 547) rfl
set_option maxRecDepth 100000 in
theorem mw_545 : (.fieldLink RX6 43 "SixNumbersModel" "todoValue" "[I" : Cond) ∈ lw_tbl := List.mem_of_getElem? (i := 545) rfl
set_option maxRecDepth 100000 in
theorem mw_544 : (.fieldLink RX6 40 "SixNumbersModel" "todoSet" "[I" : Cond) ∈ lw_tbl := List.mem_of_getElem? (i := 544) rfl
set_option maxRecDepth 100000 in
theorem mw_542 : (.fieldLink RX6 37 "SixNumbersModel" "rights" "[I" : Cond) ∈ lw_tbl := List.mem_of_getElem? (i := 542) rfl
set_option maxRecDepth 100000 in
theorem mw_541 : (.fieldLink RX6 34 "SixNumbersModel" "lefts" "[I" : Cond) ∈ lw_tbl := List.mem_of_getElem? (i := 541) rfl
set_option maxRecDepth 100000 in
theorem mw_540 : (.fieldLink RX6 30 "SixNumbersModel" "ways" "[J" : Cond) ∈ lw_tbl := List.mem_of_getElem? (i := 540) rfl
set_option maxRecDepth 100000 in
theorem mw_529 : (.constant RX6 29 (192064) : Cond) ∈ lw_tbl := List.mem_of_getElem? (i := 529) rfl
set_option maxRecDepth 100000 in
theorem mw_538 : (.fieldLink RX6 26 "SixNumbersModel" "work" "[I" : Cond) ∈ lw_tbl := List.mem_of_getElem? (i := 538) rfl
set_option maxRecDepth 100000 in
theorem mw_536 : (.fieldLink RX6 23 "SixNumbersModel" "out" "[I" : Cond) ∈ lw_tbl := List.mem_of_getElem? (i := 536) rfl
set_option maxRecDepth 100000 in
theorem mw_535 : (.fieldLink RX6 20 "SixNumbersModel" "box" "[I" : Cond) ∈ lw_tbl := List.mem_of_getElem? (i := 535) rfl
set_option maxRecDepth 100000 in
theorem mw_533 : (.fieldLink RX6 17 "SixNumbersModel" "most" "I" : Cond) ∈ lw_tbl := List.mem_of_getElem? (i := 533) rfl
set_option maxRecDepth 100000 in
theorem mw_532 : (.fieldLink RX6 13 "SixNumbersModel" "acts" "I" : Cond) ∈ lw_tbl := List.mem_of_getElem? (i := 532) rfl
set_option maxRecDepth 100000 in
theorem mw_531 : (.fieldLink RX6 7 "SixNumbersModel" "numbers" "[I" : Cond) ∈ lw_tbl := List.mem_of_getElem? (i := 531) rfl
set_option maxRecDepth 100000 in
theorem mw_528 : (.methodLink RX6 1 objectInit : Cond) ∈ lw_tbl := List.mem_of_getElem? (i := 528) rfl
set_option maxRecDepth 100000 in
theorem inT_X6 : ∀ w ∈ wsX60, w ∈ lw_tbl := by
  show ∀ w ∈ [u_lay RX6 TX6 0, u_lay RX6 TX6 1, u_lay RX6 TX6 2, u_lay RX6 TX6 3, u_lay RX6 TX6 4, u_lay RX6 TX6 5, u_lay RX6 TX6 6, u_lay RX6 TX6 7, u_lay RX6 TX6 8, u_lay RX6 TX6 9, u_lay RX6 TX6 10, u_lay RX6 TX6 11, u_lay RX6 TX6 12, u_lay RX6 TX6 13, u_lay RX6 TX6 14, u_lay RX6 TX6 15, u_lay RX6 TX6 16, u_lay RX6 TX6 17, u_lay RX6 TX6 18, u_lay RX6 TX6 19], w ∈ lw_tbl
  exact List.forall_mem_cons.mpr ⟨List.mem_of_getElem? (i := 550) rfl, List.forall_mem_cons.mpr ⟨List.mem_of_getElem? (i := 552) rfl, List.forall_mem_cons.mpr ⟨List.mem_of_getElem? (i := 554) rfl, List.forall_mem_cons.mpr ⟨List.mem_of_getElem? (i := 556) rfl, List.forall_mem_cons.mpr ⟨List.mem_of_getElem? (i := 558) rfl, List.forall_mem_cons.mpr ⟨List.mem_of_getElem? (i := 560) rfl, List.forall_mem_cons.mpr ⟨List.mem_of_getElem? (i := 562) rfl, List.forall_mem_cons.mpr ⟨List.mem_of_getElem? (i := 564) rfl, List.forall_mem_cons.mpr ⟨List.mem_of_getElem? (i := 566) rfl, List.forall_mem_cons.mpr ⟨List.mem_of_getElem? (i := 568) rfl, List.forall_mem_cons.mpr ⟨List.mem_of_getElem? (i := 570) rfl, List.forall_mem_cons.mpr ⟨List.mem_of_getElem? (i := 572) rfl, List.forall_mem_cons.mpr ⟨List.mem_of_getElem? (i := 574) rfl, List.forall_mem_cons.mpr ⟨List.mem_of_getElem? (i := 576) rfl, List.forall_mem_cons.mpr ⟨List.mem_of_getElem? (i := 578) rfl, List.forall_mem_cons.mpr ⟨List.mem_of_getElem? (i := 580) rfl, List.forall_mem_cons.mpr ⟨List.mem_of_getElem? (i := 582) rfl, List.forall_mem_cons.mpr ⟨List.mem_of_getElem? (i := 584) rfl, List.forall_mem_cons.mpr ⟨List.mem_of_getElem? (i := 586) rfl, List.forall_mem_cons.mpr ⟨List.mem_of_getElem? (i := 588) rfl, fun _ h => absurd h List.not_mem_nil⟩⟩⟩⟩⟩⟩⟩⟩⟩⟩⟩⟩⟩⟩⟩⟩⟩⟩⟩⟩
set_option maxRecDepth 100000 in
theorem inT_wsX6_init : ∀ w ∈ wsX6_init, w ∈ lw_tbl := (List.forall_mem_cons.mpr ⟨mw_527, (List.forall_mem_append.mpr ⟨(List.forall_mem_cons.mpr ⟨mw_528, (List.forall_mem_cons.mpr ⟨mw_52, (List.forall_mem_cons.mpr ⟨mw_53, (List.forall_mem_cons.mpr ⟨mw_106, (List.forall_mem_cons.mpr ⟨mw_531, (List.forall_mem_cons.mpr ⟨mw_532, (List.forall_mem_cons.mpr ⟨mw_533, (List.forall_mem_cons.mpr ⟨mw_535, (List.forall_mem_cons.mpr ⟨mw_536, (List.forall_mem_cons.mpr ⟨mw_538, (List.forall_mem_cons.mpr ⟨mw_529, (List.forall_mem_cons.mpr ⟨mw_107, (List.forall_mem_cons.mpr ⟨mw_540, (List.forall_mem_cons.mpr ⟨mw_541, (List.forall_mem_cons.mpr ⟨mw_542, (List.forall_mem_cons.mpr ⟨mw_544, (List.forall_mem_cons.mpr ⟨mw_545, (List.forall_mem_cons.mpr ⟨mw_547, (List.forall_mem_cons.mpr ⟨mw_548, (List.forall_mem_cons.mpr ⟨mw_549, (fun _ h => absurd h List.not_mem_nil)⟩)⟩)⟩)⟩)⟩)⟩)⟩)⟩)⟩)⟩)⟩)⟩)⟩)⟩)⟩)⟩)⟩)⟩)⟩)⟩), inT_X6⟩)⟩)
set_option maxRecDepth 100000 in
theorem gT_X6_init : GoodIn lw_tbl wsX6_init := goodIn_sub inT_wsX6_init (by decide +kernel)
set_option maxRecDepth 100000 in
theorem mw_191 : (.code yX5_item cX5_item 3 (some .int) : Cond) ∈ lw_tbl := List.mem_of_getElem? (i := 191) rfl
set_option maxRecDepth 100000 in
theorem mw_201 : (.code Lib.Math.max.name Lib.Math.max.code 2 (some .int) : Cond) ∈ lw_tbl := List.mem_of_getElem? (i := 201) rfl
set_option maxRecDepth 100000 in
theorem mw_40 : (.initialized "java/lang/Math" : Cond) ∈ lw_tbl := List.mem_of_getElem? (i := 40) rfl
set_option maxRecDepth 100000 in
theorem mw_200 : (.static Lib.Math.max.name : Cond) ∈ lw_tbl := List.mem_of_getElem? (i := 200) rfl
set_option maxRecDepth 100000 in
theorem mw_199 : (.methodLink RX1 42 Lib.Math.max.name : Cond) ∈ lw_tbl := List.mem_of_getElem? (i := 199) rfl
set_option maxRecDepth 100000 in
theorem mw_198 : (.code yX1_place cX1_place 3 none : Cond) ∈ lw_tbl := List.mem_of_getElem? (i := 198) rfl
set_option maxRecDepth 100000 in
theorem mw_197 : (.selects RX1 yX1_place yX1_place : Cond) ∈ lw_tbl := List.mem_of_getElem? (i := 197) rfl
set_option maxRecDepth 100000 in
theorem mw_196 : (.instanceMethod yX1_place : Cond) ∈ lw_tbl := List.mem_of_getElem? (i := 196) rfl
set_option maxRecDepth 100000 in
theorem mw_195 : (.methodLink RX5 59 yX1_place : Cond) ∈ lw_tbl := List.mem_of_getElem? (i := 195) rfl
set_option maxRecDepth 100000 in
theorem mw_194 : (.code yX5_isOutside cX5_isOutside 3 (some .boolean) : Cond) ∈ lw_tbl := List.mem_of_getElem? (i := 194) rfl
set_option maxRecDepth 100000 in
theorem mw_33 : (.initialized RX5 : Cond) ∈ lw_tbl := List.mem_of_getElem? (i := 33) rfl
set_option maxRecDepth 100000 in
theorem mw_193 : (.static yX5_isOutside : Cond) ∈ lw_tbl := List.mem_of_getElem? (i := 193) rfl
set_option maxRecDepth 100000 in
theorem mw_192 : (.methodLink RX5 51 yX5_isOutside : Cond) ∈ lw_tbl := List.mem_of_getElem? (i := 192) rfl
set_option maxRecDepth 100000 in
theorem inT_wsX5_item : ∀ w ∈ wsX5_item, w ∈ lw_tbl := (List.forall_mem_cons.mpr ⟨mw_191, (List.forall_mem_append.mpr ⟨(List.forall_mem_append.mpr ⟨(List.forall_mem_cons.mpr ⟨mw_170, (List.forall_mem_cons.mpr ⟨mw_192, (List.forall_mem_cons.mpr ⟨mw_193, (List.forall_mem_cons.mpr ⟨mw_33, (List.forall_mem_cons.mpr ⟨mw_194, (List.forall_mem_cons.mpr ⟨mw_195, (List.forall_mem_cons.mpr ⟨mw_196, (List.forall_mem_cons.mpr ⟨mw_197, (List.forall_mem_cons.mpr ⟨mw_35, (List.forall_mem_cons.mpr ⟨mw_198, (List.forall_mem_cons.mpr ⟨mw_86, (List.forall_mem_cons.mpr ⟨mw_81, (List.forall_mem_cons.mpr ⟨mw_199, (List.forall_mem_cons.mpr ⟨mw_200, (List.forall_mem_cons.mpr ⟨mw_40, (List.forall_mem_cons.mpr ⟨mw_201, (List.forall_mem_cons.mpr ⟨mw_88, (fun _ h => absurd h List.not_mem_nil)⟩)⟩)⟩)⟩)⟩)⟩)⟩)⟩)⟩)⟩)⟩)⟩)⟩)⟩)⟩)⟩)⟩), inT_X5⟩), inT_X1⟩)⟩)
set_option maxRecDepth 100000 in
theorem mw_190 : (.selects RX5 yX5_item yX5_item : Cond) ∈ lw_tbl := List.mem_of_getElem? (i := 190) rfl
set_option maxRecDepth 100000 in
theorem mw_189 : (.instanceMethod yX5_item : Cond) ∈ lw_tbl := List.mem_of_getElem? (i := 189) rfl
set_option maxRecDepth 100000 in
theorem mw_188 : (.methodLink RL 13 yX5_item : Cond) ∈ lw_tbl := List.mem_of_getElem? (i := 188) rfl
set_option maxRecDepth 100000 in
theorem gT_X5_item : GoodIn lw_tbl (wsV RL 13 RX5 yX5_item wsX5_item) := goodIn_sub (List.forall_mem_append.mpr ⟨(List.forall_mem_cons.mpr ⟨mw_188, (List.forall_mem_cons.mpr ⟨mw_189, (List.forall_mem_cons.mpr ⟨mw_190, (List.forall_mem_cons.mpr ⟨mw_33, (fun _ h => absurd h List.not_mem_nil)⟩)⟩)⟩)⟩), inT_wsX5_item⟩) (by decide +kernel)
set_option maxRecDepth 100000 in
theorem mw_594 : (.code yX6_item cX6_item 2 (some .int) : Cond) ∈ lw_tbl := List.mem_of_getElem? (i := 594) rfl
set_option maxRecDepth 100000 in
theorem mw_598 : (.code yX6_in cX6_in 6 (some .boolean) : Cond) ∈ lw_tbl := List.mem_of_getElem? (i := 598) rfl
set_option maxRecDepth 100000 in
theorem mw_39 : (.initialized RX6 : Cond) ∈ lw_tbl := List.mem_of_getElem? (i := 39) rfl
set_option maxRecDepth 100000 in
theorem mw_597 : (.static yX6_in : Cond) ∈ lw_tbl := List.mem_of_getElem? (i := 597) rfl
set_option maxRecDepth 100000 in
theorem mw_596 : (.methodLink RX6 57 yX6_in : Cond) ∈ lw_tbl := List.mem_of_getElem? (i := 596) rfl
set_option maxRecDepth 100000 in
theorem mw_543 : (.fieldLink RX6 64 "SixNumbersModel" "isHeap" "Z" : Cond) ∈ lw_tbl := List.mem_of_getElem? (i := 543) rfl
set_option maxRecDepth 100000 in
theorem mw_530 : (.fieldLink RX6 61 "SixNumbersModel" "items" "I" : Cond) ∈ lw_tbl := List.mem_of_getElem? (i := 530) rfl
set_option maxRecDepth 100000 in
theorem mw_595 : (.constantLong RX6 55 (100) : Cond) ∈ lw_tbl := List.mem_of_getElem? (i := 595) rfl
set_option maxRecDepth 100000 in
theorem inT_wsX6_item : ∀ w ∈ wsX6_item, w ∈ lw_tbl := (List.forall_mem_cons.mpr ⟨mw_594, (List.forall_mem_append.mpr ⟨(List.forall_mem_cons.mpr ⟨mw_595, (List.forall_mem_cons.mpr ⟨mw_530, (List.forall_mem_cons.mpr ⟨mw_531, (List.forall_mem_cons.mpr ⟨mw_543, (List.forall_mem_cons.mpr ⟨mw_596, (List.forall_mem_cons.mpr ⟨mw_597, (List.forall_mem_cons.mpr ⟨mw_39, (List.forall_mem_cons.mpr ⟨mw_598, (fun _ h => absurd h List.not_mem_nil)⟩)⟩)⟩)⟩)⟩)⟩)⟩)⟩), inT_X6⟩)⟩)
set_option maxRecDepth 100000 in
theorem mw_593 : (.selects RX6 yX6_item yX6_item : Cond) ∈ lw_tbl := List.mem_of_getElem? (i := 593) rfl
set_option maxRecDepth 100000 in
theorem mw_592 : (.instanceMethod yX6_item : Cond) ∈ lw_tbl := List.mem_of_getElem? (i := 592) rfl
set_option maxRecDepth 100000 in
theorem mw_591 : (.methodLink RL 17 yX6_item : Cond) ∈ lw_tbl := List.mem_of_getElem? (i := 591) rfl
set_option maxRecDepth 100000 in
theorem gT_X6_item : GoodIn lw_tbl (wsV RL 17 RX6 yX6_item wsX6_item) := goodIn_sub (List.forall_mem_append.mpr ⟨(List.forall_mem_cons.mpr ⟨mw_591, (List.forall_mem_cons.mpr ⟨mw_592, (List.forall_mem_cons.mpr ⟨mw_593, (List.forall_mem_cons.mpr ⟨mw_39, (fun _ h => absurd h List.not_mem_nil)⟩)⟩)⟩)⟩), inT_wsX6_item⟩) (by decide +kernel)
set_option maxRecDepth 100000 in
theorem mw_205 : (.code yX5_set cX5_set 4 (some .int) : Cond) ∈ lw_tbl := List.mem_of_getElem? (i := 205) rfl
set_option maxRecDepth 100000 in
theorem mw_209 : (.code yX1_itemAt cX1_itemAt 2 (some .int) : Cond) ∈ lw_tbl := List.mem_of_getElem? (i := 209) rfl
set_option maxRecDepth 100000 in
theorem mw_208 : (.selects RX1 yX1_itemAt yX1_itemAt : Cond) ∈ lw_tbl := List.mem_of_getElem? (i := 208) rfl
set_option maxRecDepth 100000 in
theorem mw_207 : (.instanceMethod yX1_itemAt : Cond) ∈ lw_tbl := List.mem_of_getElem? (i := 207) rfl
set_option maxRecDepth 100000 in
theorem mw_206 : (.methodLink RX5 63 yX1_itemAt : Cond) ∈ lw_tbl := List.mem_of_getElem? (i := 206) rfl
set_option maxRecDepth 100000 in
theorem inT_wsX5_set : ∀ w ∈ wsX5_set, w ∈ lw_tbl := (List.forall_mem_cons.mpr ⟨mw_205, (List.forall_mem_append.mpr ⟨(List.forall_mem_append.mpr ⟨(List.forall_mem_cons.mpr ⟨mw_170, (List.forall_mem_cons.mpr ⟨mw_192, (List.forall_mem_cons.mpr ⟨mw_193, (List.forall_mem_cons.mpr ⟨mw_33, (List.forall_mem_cons.mpr ⟨mw_194, (List.forall_mem_cons.mpr ⟨mw_206, (List.forall_mem_cons.mpr ⟨mw_207, (List.forall_mem_cons.mpr ⟨mw_208, (List.forall_mem_cons.mpr ⟨mw_35, (List.forall_mem_cons.mpr ⟨mw_209, (List.forall_mem_cons.mpr ⟨mw_86, (List.forall_mem_cons.mpr ⟨mw_81, (List.forall_mem_cons.mpr ⟨mw_195, (List.forall_mem_cons.mpr ⟨mw_196, (List.forall_mem_cons.mpr ⟨mw_197, (List.forall_mem_cons.mpr ⟨mw_198, (List.forall_mem_cons.mpr ⟨mw_199, (List.forall_mem_cons.mpr ⟨mw_200, (List.forall_mem_cons.mpr ⟨mw_40, (List.forall_mem_cons.mpr ⟨mw_201, (List.forall_mem_cons.mpr ⟨mw_88, (fun _ h => absurd h List.not_mem_nil)⟩)⟩)⟩)⟩)⟩)⟩)⟩)⟩)⟩)⟩)⟩)⟩)⟩)⟩)⟩)⟩)⟩)⟩)⟩)⟩)⟩), inT_X5⟩), inT_X1⟩)⟩)
set_option maxRecDepth 100000 in
theorem mw_204 : (.selects RX5 yX5_set yX5_set : Cond) ∈ lw_tbl := List.mem_of_getElem? (i := 204) rfl
set_option maxRecDepth 100000 in
theorem mw_203 : (.instanceMethod yX5_set : Cond) ∈ lw_tbl := List.mem_of_getElem? (i := 203) rfl
set_option maxRecDepth 100000 in
theorem mw_202 : (.methodLink RL 18 yX5_set : Cond) ∈ lw_tbl := List.mem_of_getElem? (i := 202) rfl
set_option maxRecDepth 100000 in
theorem gT_X5_set : GoodIn lw_tbl (wsV RL 18 RX5 yX5_set wsX5_set) := goodIn_sub (List.forall_mem_append.mpr ⟨(List.forall_mem_cons.mpr ⟨mw_202, (List.forall_mem_cons.mpr ⟨mw_203, (List.forall_mem_cons.mpr ⟨mw_204, (List.forall_mem_cons.mpr ⟨mw_33, (fun _ h => absurd h List.not_mem_nil)⟩)⟩)⟩)⟩), inT_wsX5_set⟩) (by decide +kernel)
set_option maxRecDepth 100000 in
theorem mw_602 : (.code yX6_set cX6_set 4 (some .int) : Cond) ∈ lw_tbl := List.mem_of_getElem? (i := 602) rfl
set_option maxRecDepth 100000 in
theorem inT_wsX6_set : ∀ w ∈ wsX6_set, w ∈ lw_tbl := (List.forall_mem_cons.mpr ⟨mw_602, (List.forall_mem_append.mpr ⟨(List.forall_mem_cons.mpr ⟨mw_530, (List.forall_mem_cons.mpr ⟨mw_595, (List.forall_mem_cons.mpr ⟨mw_531, (List.forall_mem_cons.mpr ⟨mw_543, (List.forall_mem_cons.mpr ⟨mw_596, (List.forall_mem_cons.mpr ⟨mw_597, (List.forall_mem_cons.mpr ⟨mw_39, (List.forall_mem_cons.mpr ⟨mw_598, (fun _ h => absurd h List.not_mem_nil)⟩)⟩)⟩)⟩)⟩)⟩)⟩)⟩), inT_X6⟩)⟩)
set_option maxRecDepth 100000 in
theorem mw_601 : (.selects RX6 yX6_set yX6_set : Cond) ∈ lw_tbl := List.mem_of_getElem? (i := 601) rfl
set_option maxRecDepth 100000 in
theorem mw_600 : (.instanceMethod yX6_set : Cond) ∈ lw_tbl := List.mem_of_getElem? (i := 600) rfl
set_option maxRecDepth 100000 in
theorem mw_599 : (.methodLink RL 22 yX6_set : Cond) ∈ lw_tbl := List.mem_of_getElem? (i := 599) rfl
set_option maxRecDepth 100000 in
theorem gT_X6_set : GoodIn lw_tbl (wsV RL 22 RX6 yX6_set wsX6_set) := goodIn_sub (List.forall_mem_append.mpr ⟨(List.forall_mem_cons.mpr ⟨mw_599, (List.forall_mem_cons.mpr ⟨mw_600, (List.forall_mem_cons.mpr ⟨mw_601, (List.forall_mem_cons.mpr ⟨mw_39, (fun _ h => absurd h List.not_mem_nil)⟩)⟩)⟩)⟩), inT_wsX6_set⟩) (by decide +kernel)
set_option maxRecDepth 100000 in
theorem mw_213 : (.code yX5_cut cX5_cut 3 (some .int) : Cond) ∈ lw_tbl := List.mem_of_getElem? (i := 213) rfl
set_option maxRecDepth 100000 in
theorem mw_220 : (.code Lib.Math.min.name Lib.Math.min.code 2 (some .int) : Cond) ∈ lw_tbl := List.mem_of_getElem? (i := 220) rfl
set_option maxRecDepth 100000 in
theorem mw_219 : (.static Lib.Math.min.name : Cond) ∈ lw_tbl := List.mem_of_getElem? (i := 219) rfl
set_option maxRecDepth 100000 in
theorem mw_218 : (.methodLink RX1 48 Lib.Math.min.name : Cond) ∈ lw_tbl := List.mem_of_getElem? (i := 218) rfl
set_option maxRecDepth 100000 in
theorem mw_217 : (.code yX1_shorten cX1_shorten 3 none : Cond) ∈ lw_tbl := List.mem_of_getElem? (i := 217) rfl
set_option maxRecDepth 100000 in
theorem mw_216 : (.selects RX1 yX1_shorten yX1_shorten : Cond) ∈ lw_tbl := List.mem_of_getElem? (i := 216) rfl
set_option maxRecDepth 100000 in
theorem mw_215 : (.instanceMethod yX1_shorten : Cond) ∈ lw_tbl := List.mem_of_getElem? (i := 215) rfl
set_option maxRecDepth 100000 in
theorem mw_214 : (.methodLink RX5 67 yX1_shorten : Cond) ∈ lw_tbl := List.mem_of_getElem? (i := 214) rfl
set_option maxRecDepth 100000 in
theorem inT_wsX5_cut : ∀ w ∈ wsX5_cut, w ∈ lw_tbl := (List.forall_mem_cons.mpr ⟨mw_213, (List.forall_mem_append.mpr ⟨(List.forall_mem_append.mpr ⟨(List.forall_mem_cons.mpr ⟨mw_170, (List.forall_mem_cons.mpr ⟨mw_192, (List.forall_mem_cons.mpr ⟨mw_193, (List.forall_mem_cons.mpr ⟨mw_33, (List.forall_mem_cons.mpr ⟨mw_194, (List.forall_mem_cons.mpr ⟨mw_214, (List.forall_mem_cons.mpr ⟨mw_215, (List.forall_mem_cons.mpr ⟨mw_216, (List.forall_mem_cons.mpr ⟨mw_35, (List.forall_mem_cons.mpr ⟨mw_217, (List.forall_mem_cons.mpr ⟨mw_86, (List.forall_mem_cons.mpr ⟨mw_88, (List.forall_mem_cons.mpr ⟨mw_218, (List.forall_mem_cons.mpr ⟨mw_219, (List.forall_mem_cons.mpr ⟨mw_40, (List.forall_mem_cons.mpr ⟨mw_220, (fun _ h => absurd h List.not_mem_nil)⟩)⟩)⟩)⟩)⟩)⟩)⟩)⟩)⟩)⟩)⟩)⟩)⟩)⟩)⟩)⟩), inT_X5⟩), inT_X1⟩)⟩)
set_option maxRecDepth 100000 in
theorem mw_212 : (.selects RX5 yX5_cut yX5_cut : Cond) ∈ lw_tbl := List.mem_of_getElem? (i := 212) rfl
set_option maxRecDepth 100000 in
theorem mw_211 : (.instanceMethod yX5_cut : Cond) ∈ lw_tbl := List.mem_of_getElem? (i := 211) rfl
set_option maxRecDepth 100000 in
theorem mw_210 : (.methodLink RL 23 yX5_cut : Cond) ∈ lw_tbl := List.mem_of_getElem? (i := 210) rfl
set_option maxRecDepth 100000 in
theorem gT_X5_cut : GoodIn lw_tbl (wsV RL 23 RX5 yX5_cut wsX5_cut) := goodIn_sub (List.forall_mem_append.mpr ⟨(List.forall_mem_cons.mpr ⟨mw_210, (List.forall_mem_cons.mpr ⟨mw_211, (List.forall_mem_cons.mpr ⟨mw_212, (List.forall_mem_cons.mpr ⟨mw_33, (fun _ h => absurd h List.not_mem_nil)⟩)⟩)⟩)⟩), inT_wsX5_cut⟩) (by decide +kernel)
set_option maxRecDepth 100000 in
theorem mw_606 : (.code yX6_cut cX6_cut 3 (some .int) : Cond) ∈ lw_tbl := List.mem_of_getElem? (i := 606) rfl
set_option maxRecDepth 100000 in
theorem inT_wsX6_cut : ∀ w ∈ wsX6_cut, w ∈ lw_tbl := (List.forall_mem_cons.mpr ⟨mw_606, (List.forall_mem_append.mpr ⟨(List.forall_mem_cons.mpr ⟨mw_530, (List.forall_mem_cons.mpr ⟨mw_543, (List.forall_mem_cons.mpr ⟨mw_596, (List.forall_mem_cons.mpr ⟨mw_597, (List.forall_mem_cons.mpr ⟨mw_39, (List.forall_mem_cons.mpr ⟨mw_598, (fun _ h => absurd h List.not_mem_nil)⟩)⟩)⟩)⟩)⟩)⟩), inT_X6⟩)⟩)
set_option maxRecDepth 100000 in
theorem mw_605 : (.selects RX6 yX6_cut yX6_cut : Cond) ∈ lw_tbl := List.mem_of_getElem? (i := 605) rfl
set_option maxRecDepth 100000 in
theorem mw_604 : (.instanceMethod yX6_cut : Cond) ∈ lw_tbl := List.mem_of_getElem? (i := 604) rfl
set_option maxRecDepth 100000 in
theorem mw_603 : (.methodLink RL 26 yX6_cut : Cond) ∈ lw_tbl := List.mem_of_getElem? (i := 603) rfl
set_option maxRecDepth 100000 in
theorem gT_X6_cut : GoodIn lw_tbl (wsV RL 26 RX6 yX6_cut wsX6_cut) := goodIn_sub (List.forall_mem_append.mpr ⟨(List.forall_mem_cons.mpr ⟨mw_603, (List.forall_mem_cons.mpr ⟨mw_604, (List.forall_mem_cons.mpr ⟨mw_605, (List.forall_mem_cons.mpr ⟨mw_39, (fun _ h => absurd h List.not_mem_nil)⟩)⟩)⟩)⟩), inT_wsX6_cut⟩) (by decide +kernel)
set_option maxRecDepth 100000 in
theorem mw_224 : (.code yX5_rule cX5_rule 5 (some .int) : Cond) ∈ lw_tbl := List.mem_of_getElem? (i := 224) rfl
set_option maxRecDepth 100000 in
theorem mw_232 : (.code yX0_forgetTallies cX0_forgetTallies 1 none : Cond) ∈ lw_tbl := List.mem_of_getElem? (i := 232) rfl
set_option maxRecDepth 100000 in
theorem mw_231 : (.selects RX0 yX0_forgetTallies yX0_forgetTallies : Cond) ∈ lw_tbl := List.mem_of_getElem? (i := 231) rfl
set_option maxRecDepth 100000 in
theorem mw_230 : (.instanceMethod yX0_forgetTallies : Cond) ∈ lw_tbl := List.mem_of_getElem? (i := 230) rfl
set_option maxRecDepth 100000 in
theorem mw_229 : (.methodLink RX5 80 yX0_forgetTallies : Cond) ∈ lw_tbl := List.mem_of_getElem? (i := 229) rfl
set_option maxRecDepth 100000 in
theorem mw_228 : (.code yX1_changeEverySet cX1_changeEverySet 1 none : Cond) ∈ lw_tbl := List.mem_of_getElem? (i := 228) rfl
set_option maxRecDepth 100000 in
theorem mw_227 : (.selects RX1 yX1_changeEverySet yX1_changeEverySet : Cond) ∈ lw_tbl := List.mem_of_getElem? (i := 227) rfl
set_option maxRecDepth 100000 in
theorem mw_226 : (.instanceMethod yX1_changeEverySet : Cond) ∈ lw_tbl := List.mem_of_getElem? (i := 226) rfl
set_option maxRecDepth 100000 in
theorem mw_225 : (.methodLink RX5 77 yX1_changeEverySet : Cond) ∈ lw_tbl := List.mem_of_getElem? (i := 225) rfl
set_option maxRecDepth 100000 in
theorem inT_wsX5_rule : ∀ w ∈ wsX5_rule, w ∈ lw_tbl := (List.forall_mem_cons.mpr ⟨mw_224, (List.forall_mem_append.mpr ⟨(List.forall_mem_append.mpr ⟨(List.forall_mem_append.mpr ⟨(List.forall_mem_append.mpr ⟨(List.forall_mem_cons.mpr ⟨mw_169, (List.forall_mem_cons.mpr ⟨mw_170, (List.forall_mem_cons.mpr ⟨mw_171, (List.forall_mem_cons.mpr ⟨mw_172, (List.forall_mem_cons.mpr ⟨mw_192, (List.forall_mem_cons.mpr ⟨mw_193, (List.forall_mem_cons.mpr ⟨mw_33, (List.forall_mem_cons.mpr ⟨mw_194, (List.forall_mem_cons.mpr ⟨mw_225, (List.forall_mem_cons.mpr ⟨mw_226, (List.forall_mem_cons.mpr ⟨mw_227, (List.forall_mem_cons.mpr ⟨mw_35, (List.forall_mem_cons.mpr ⟨mw_228, (List.forall_mem_cons.mpr ⟨mw_81, (List.forall_mem_cons.mpr ⟨mw_88, (List.forall_mem_cons.mpr ⟨mw_229, (List.forall_mem_cons.mpr ⟨mw_230, (List.forall_mem_cons.mpr ⟨mw_231, (List.forall_mem_cons.mpr ⟨mw_36, (List.forall_mem_cons.mpr ⟨mw_232, (List.forall_mem_cons.mpr ⟨mw_121, (fun _ h => absurd h List.not_mem_nil)⟩)⟩)⟩)⟩)⟩)⟩)⟩)⟩)⟩)⟩)⟩)⟩)⟩)⟩)⟩)⟩)⟩)⟩)⟩)⟩)⟩), inT_X5⟩), inT_X3⟩), inT_X1⟩), inT_X0⟩)⟩)
set_option maxRecDepth 100000 in
theorem mw_223 : (.selects RX5 yX5_rule yX5_rule : Cond) ∈ lw_tbl := List.mem_of_getElem? (i := 223) rfl
set_option maxRecDepth 100000 in
theorem mw_222 : (.instanceMethod yX5_rule : Cond) ∈ lw_tbl := List.mem_of_getElem? (i := 222) rfl
set_option maxRecDepth 100000 in
theorem mw_221 : (.methodLink RL 27 yX5_rule : Cond) ∈ lw_tbl := List.mem_of_getElem? (i := 221) rfl
set_option maxRecDepth 100000 in
theorem gT_X5_rule : GoodIn lw_tbl (wsV RL 27 RX5 yX5_rule wsX5_rule) := goodIn_sub (List.forall_mem_append.mpr ⟨(List.forall_mem_cons.mpr ⟨mw_221, (List.forall_mem_cons.mpr ⟨mw_222, (List.forall_mem_cons.mpr ⟨mw_223, (List.forall_mem_cons.mpr ⟨mw_33, (fun _ h => absurd h List.not_mem_nil)⟩)⟩)⟩)⟩), inT_wsX5_rule⟩) (by decide +kernel)
set_option maxRecDepth 100000 in
theorem mw_610 : (.code yX6_rule cX6_rule 4 (some .int) : Cond) ∈ lw_tbl := List.mem_of_getElem? (i := 610) rfl
set_option maxRecDepth 100000 in
theorem mw_612 : (.constantLong RX6 70 (3000) : Cond) ∈ lw_tbl := List.mem_of_getElem? (i := 612) rfl
set_option maxRecDepth 100000 in
theorem mw_611 : (.constantLong RX6 68 (15) : Cond) ∈ lw_tbl := List.mem_of_getElem? (i := 611) rfl
set_option maxRecDepth 100000 in
theorem inT_wsX6_rule : ∀ w ∈ wsX6_rule, w ∈ lw_tbl := (List.forall_mem_cons.mpr ⟨mw_610, (List.forall_mem_append.mpr ⟨(List.forall_mem_cons.mpr ⟨mw_611, (List.forall_mem_cons.mpr ⟨mw_612, (List.forall_mem_cons.mpr ⟨mw_532, (List.forall_mem_cons.mpr ⟨mw_533, (List.forall_mem_cons.mpr ⟨mw_543, (List.forall_mem_cons.mpr ⟨mw_596, (List.forall_mem_cons.mpr ⟨mw_597, (List.forall_mem_cons.mpr ⟨mw_39, (List.forall_mem_cons.mpr ⟨mw_598, (fun _ h => absurd h List.not_mem_nil)⟩)⟩)⟩)⟩)⟩)⟩)⟩)⟩)⟩), inT_X6⟩)⟩)
set_option maxRecDepth 100000 in
theorem mw_609 : (.selects RX6 yX6_rule yX6_rule : Cond) ∈ lw_tbl := List.mem_of_getElem? (i := 609) rfl
set_option maxRecDepth 100000 in
theorem mw_608 : (.instanceMethod yX6_rule : Cond) ∈ lw_tbl := List.mem_of_getElem? (i := 608) rfl
set_option maxRecDepth 100000 in
theorem mw_607 : (.methodLink RL 30 yX6_rule : Cond) ∈ lw_tbl := List.mem_of_getElem? (i := 607) rfl
set_option maxRecDepth 100000 in
theorem gT_X6_rule : GoodIn lw_tbl (wsV RL 30 RX6 yX6_rule wsX6_rule) := goodIn_sub (List.forall_mem_append.mpr ⟨(List.forall_mem_cons.mpr ⟨mw_607, (List.forall_mem_cons.mpr ⟨mw_608, (List.forall_mem_cons.mpr ⟨mw_609, (List.forall_mem_cons.mpr ⟨mw_39, (fun _ h => absurd h List.not_mem_nil)⟩)⟩)⟩)⟩), inT_wsX6_rule⟩) (by decide +kernel)
set_option maxRecDepth 100000 in
theorem mw_236 : (.code yX5_told cX5_told 2 (some .int) : Cond) ∈ lw_tbl := List.mem_of_getElem? (i := 236) rfl
set_option maxRecDepth 100000 in
theorem mw_240 : (.code yX0_cardAt cX0_cardAt 2 (some .int) : Cond) ∈ lw_tbl := List.mem_of_getElem? (i := 240) rfl
set_option maxRecDepth 100000 in
theorem mw_239 : (.selects RX0 yX0_cardAt yX0_cardAt : Cond) ∈ lw_tbl := List.mem_of_getElem? (i := 239) rfl
set_option maxRecDepth 100000 in
theorem mw_238 : (.instanceMethod yX0_cardAt : Cond) ∈ lw_tbl := List.mem_of_getElem? (i := 238) rfl
set_option maxRecDepth 100000 in
theorem mw_237 : (.methodLink RX5 87 yX0_cardAt : Cond) ∈ lw_tbl := List.mem_of_getElem? (i := 237) rfl
set_option maxRecDepth 100000 in
theorem inT_wsX5_told : ∀ w ∈ wsX5_told, w ∈ lw_tbl := (List.forall_mem_cons.mpr ⟨mw_236, (List.forall_mem_append.mpr ⟨(List.forall_mem_append.mpr ⟨(List.forall_mem_append.mpr ⟨(List.forall_mem_append.mpr ⟨(List.forall_mem_append.mpr ⟨(List.forall_mem_cons.mpr ⟨mw_170, (List.forall_mem_cons.mpr ⟨mw_169, (List.forall_mem_cons.mpr ⟨mw_172, (List.forall_mem_cons.mpr ⟨mw_173, (List.forall_mem_cons.mpr ⟨mw_192, (List.forall_mem_cons.mpr ⟨mw_193, (List.forall_mem_cons.mpr ⟨mw_33, (List.forall_mem_cons.mpr ⟨mw_194, (List.forall_mem_cons.mpr ⟨mw_206, (List.forall_mem_cons.mpr ⟨mw_207, (List.forall_mem_cons.mpr ⟨mw_208, (List.forall_mem_cons.mpr ⟨mw_35, (List.forall_mem_cons.mpr ⟨mw_209, (List.forall_mem_cons.mpr ⟨mw_86, (List.forall_mem_cons.mpr ⟨mw_81, (List.forall_mem_cons.mpr ⟨mw_237, (List.forall_mem_cons.mpr ⟨mw_238, (List.forall_mem_cons.mpr ⟨mw_239, (List.forall_mem_cons.mpr ⟨mw_36, (List.forall_mem_cons.mpr ⟨mw_240, (List.forall_mem_cons.mpr ⟨mw_117, (List.forall_mem_cons.mpr ⟨mw_116, (fun _ h => absurd h List.not_mem_nil)⟩)⟩)⟩)⟩)⟩)⟩)⟩)⟩)⟩)⟩)⟩)⟩)⟩)⟩)⟩)⟩)⟩)⟩)⟩)⟩)⟩)⟩), inT_X5⟩), inT_X1⟩), inT_X3⟩), inT_X0⟩), inT_X2⟩)⟩)
set_option maxRecDepth 100000 in
theorem mw_235 : (.selects RX5 yX5_told yX5_told : Cond) ∈ lw_tbl := List.mem_of_getElem? (i := 235) rfl
set_option maxRecDepth 100000 in
theorem mw_234 : (.instanceMethod yX5_told : Cond) ∈ lw_tbl := List.mem_of_getElem? (i := 234) rfl
set_option maxRecDepth 100000 in
theorem mw_233 : (.methodLink RL 31 yX5_told : Cond) ∈ lw_tbl := List.mem_of_getElem? (i := 233) rfl
set_option maxRecDepth 100000 in
theorem gT_X5_told : GoodIn lw_tbl (wsV RL 31 RX5 yX5_told wsX5_told) := goodIn_sub (List.forall_mem_append.mpr ⟨(List.forall_mem_cons.mpr ⟨mw_233, (List.forall_mem_cons.mpr ⟨mw_234, (List.forall_mem_cons.mpr ⟨mw_235, (List.forall_mem_cons.mpr ⟨mw_33, (fun _ h => absurd h List.not_mem_nil)⟩)⟩)⟩)⟩), inT_wsX5_told⟩) (by decide +kernel)
set_option maxRecDepth 100000 in
theorem mw_616 : (.code yX6_told cX6_told 2 (some .int) : Cond) ∈ lw_tbl := List.mem_of_getElem? (i := 616) rfl
set_option maxRecDepth 100000 in
theorem mw_537 : (.fieldLink RX6 81 "SixNumbersModel" "outSize" "I" : Cond) ∈ lw_tbl := List.mem_of_getElem? (i := 537) rfl
set_option maxRecDepth 100000 in
theorem mw_534 : (.fieldLink RX6 78 "SixNumbersModel" "cards" "I" : Cond) ∈ lw_tbl := List.mem_of_getElem? (i := 534) rfl
set_option maxRecDepth 100000 in
theorem mw_619 : (.constantLong RX6 76 (29) : Cond) ∈ lw_tbl := List.mem_of_getElem? (i := 619) rfl
set_option maxRecDepth 100000 in
theorem mw_618 : (.constantLong RX6 74 (20) : Cond) ∈ lw_tbl := List.mem_of_getElem? (i := 618) rfl
set_option maxRecDepth 100000 in
theorem mw_617 : (.constantLong RX6 72 (10) : Cond) ∈ lw_tbl := List.mem_of_getElem? (i := 617) rfl
set_option maxRecDepth 100000 in
theorem inT_wsX6_told : ∀ w ∈ wsX6_told, w ∈ lw_tbl := (List.forall_mem_cons.mpr ⟨mw_616, (List.forall_mem_append.mpr ⟨(List.forall_mem_cons.mpr ⟨mw_617, (List.forall_mem_cons.mpr ⟨mw_611, (List.forall_mem_cons.mpr ⟨mw_530, (List.forall_mem_cons.mpr ⟨mw_531, (List.forall_mem_cons.mpr ⟨mw_618, (List.forall_mem_cons.mpr ⟨mw_619, (List.forall_mem_cons.mpr ⟨mw_534, (List.forall_mem_cons.mpr ⟨mw_535, (List.forall_mem_cons.mpr ⟨mw_532, (List.forall_mem_cons.mpr ⟨mw_533, (List.forall_mem_cons.mpr ⟨mw_537, (List.forall_mem_cons.mpr ⟨mw_596, (List.forall_mem_cons.mpr ⟨mw_597, (List.forall_mem_cons.mpr ⟨mw_39, (List.forall_mem_cons.mpr ⟨mw_598, (fun _ h => absurd h List.not_mem_nil)⟩)⟩)⟩)⟩)⟩)⟩)⟩)⟩)⟩)⟩)⟩)⟩)⟩)⟩)⟩), inT_X6⟩)⟩)
set_option maxRecDepth 100000 in
theorem mw_615 : (.selects RX6 yX6_told yX6_told : Cond) ∈ lw_tbl := List.mem_of_getElem? (i := 615) rfl
set_option maxRecDepth 100000 in
theorem mw_614 : (.instanceMethod yX6_told : Cond) ∈ lw_tbl := List.mem_of_getElem? (i := 614) rfl
set_option maxRecDepth 100000 in
theorem mw_613 : (.methodLink RL 34 yX6_told : Cond) ∈ lw_tbl := List.mem_of_getElem? (i := 613) rfl
set_option maxRecDepth 100000 in
theorem gT_X6_told : GoodIn lw_tbl (wsV RL 34 RX6 yX6_told wsX6_told) := goodIn_sub (List.forall_mem_append.mpr ⟨(List.forall_mem_cons.mpr ⟨mw_613, (List.forall_mem_cons.mpr ⟨mw_614, (List.forall_mem_cons.mpr ⟨mw_615, (List.forall_mem_cons.mpr ⟨mw_39, (fun _ h => absurd h List.not_mem_nil)⟩)⟩)⟩)⟩), inT_wsX6_told⟩) (by decide +kernel)
set_option maxRecDepth 100000 in
theorem mw_244 : (.code yX5_ways cX5_ways 3 (some .long) : Cond) ∈ lw_tbl := List.mem_of_getElem? (i := 244) rfl
set_option maxRecDepth 100000 in
theorem mw_260 : (.instanceMethod yX1_forget : Cond) ∈ lw_tbl := List.mem_of_getElem? (i := 260) rfl
set_option maxRecDepth 100000 in
theorem mw_258 : (.methodLink RX1 51 yX1_forget : Cond) ∈ lw_tbl := List.mem_of_getElem? (i := 258) rfl
set_option maxRecDepth 100000 in
theorem mw_257 : (.code yX1_refresh cX1_refresh 2 none : Cond) ∈ lw_tbl := List.mem_of_getElem? (i := 257) rfl
set_option maxRecDepth 100000 in
theorem mw_256 : (.selects RX1 yX1_refresh yX1_refresh : Cond) ∈ lw_tbl := List.mem_of_getElem? (i := 256) rfl
set_option maxRecDepth 100000 in
theorem mw_255 : (.instanceMethod yX1_refresh : Cond) ∈ lw_tbl := List.mem_of_getElem? (i := 255) rfl
set_option maxRecDepth 100000 in
theorem mw_254 : (.methodLink RX5 96 yX1_refresh : Cond) ∈ lw_tbl := List.mem_of_getElem? (i := 254) rfl
set_option maxRecDepth 100000 in
theorem mw_252 : (.code yX1_knows cX1_knows 2 (some .boolean) : Cond) ∈ lw_tbl := List.mem_of_getElem? (i := 252) rfl
set_option maxRecDepth 100000 in
theorem mw_251 : (.selects RX1 yX1_knows yX1_knows : Cond) ∈ lw_tbl := List.mem_of_getElem? (i := 251) rfl
set_option maxRecDepth 100000 in
theorem mw_250 : (.instanceMethod yX1_knows : Cond) ∈ lw_tbl := List.mem_of_getElem? (i := 250) rfl
set_option maxRecDepth 100000 in
theorem mw_249 : (.methodLink RX5 107 yX1_knows : Cond) ∈ lw_tbl := List.mem_of_getElem? (i := 249) rfl
set_option maxRecDepth 100000 in
theorem mw_248 : (.code yX5_isNoWholeSet cX5_isNoWholeSet 2 (some .boolean) : Cond) ∈ lw_tbl := List.mem_of_getElem? (i := 248) rfl
set_option maxRecDepth 100000 in
theorem mw_0 : (.selects RX5 yX5_isNoWholeSet yX5_isNoWholeSet : Cond) ∈ lw_tbl := List.mem_of_getElem? (i := 0) rfl
set_option maxRecDepth 100000 in
theorem mw_247 : (.instanceMethod yX5_isNoWholeSet : Cond) ∈ lw_tbl := List.mem_of_getElem? (i := 247) rfl
set_option maxRecDepth 100000 in
theorem mw_245 : (.methodLink RX5 90 yX5_isNoWholeSet : Cond) ∈ lw_tbl := List.mem_of_getElem? (i := 245) rfl
set_option maxRecDepth 100000 in
theorem mw_253 : (.constantLong RX5 94 (-1002) : Cond) ∈ lw_tbl := List.mem_of_getElem? (i := 253) rfl
set_option maxRecDepth 100000 in
theorem inT_wsX5_ways_r1 : ∀ w ∈ wsX5_ways_r1, w ∈ lw_tbl := (List.forall_mem_cons.mpr ⟨mw_253, (List.forall_mem_cons.mpr ⟨mw_170, (List.forall_mem_cons.mpr ⟨mw_245, (List.forall_mem_cons.mpr ⟨mw_247, (List.forall_mem_cons.mpr ⟨mw_0, (List.forall_mem_cons.mpr ⟨mw_33, (List.forall_mem_cons.mpr ⟨mw_248, (List.forall_mem_cons.mpr ⟨mw_249, (List.forall_mem_cons.mpr ⟨mw_250, (List.forall_mem_cons.mpr ⟨mw_251, (List.forall_mem_cons.mpr ⟨mw_35, (List.forall_mem_cons.mpr ⟨mw_252, (List.forall_mem_cons.mpr ⟨mw_86, (List.forall_mem_cons.mpr ⟨mw_192, (List.forall_mem_cons.mpr ⟨mw_193, (List.forall_mem_cons.mpr ⟨mw_194, (List.forall_mem_cons.mpr ⟨mw_254, (List.forall_mem_cons.mpr ⟨mw_255, (List.forall_mem_cons.mpr ⟨mw_256, (List.forall_mem_cons.mpr ⟨mw_257, (List.forall_mem_cons.mpr ⟨mw_88, (List.forall_mem_cons.mpr ⟨mw_84, (List.forall_mem_cons.mpr ⟨mw_258, (List.forall_mem_cons.mpr ⟨mw_260, (fun _ h => absurd h List.not_mem_nil)⟩)⟩)⟩)⟩)⟩)⟩)⟩)⟩)⟩)⟩)⟩)⟩)⟩)⟩)⟩)⟩)⟩)⟩)⟩)⟩)⟩)⟩)⟩)⟩)
set_option maxRecDepth 100000 in
theorem mw_281 : (.code Lib.Math.abs.name Lib.Math.abs.code 1 (some .int) : Cond) ∈ lw_tbl := List.mem_of_getElem? (i := 281) rfl
set_option maxRecDepth 100000 in
theorem mw_280 : (.static Lib.Math.abs.name : Cond) ∈ lw_tbl := List.mem_of_getElem? (i := 280) rfl
set_option maxRecDepth 100000 in
theorem mw_279 : (.methodLink RX1 78 Lib.Math.abs.name : Cond) ∈ lw_tbl := List.mem_of_getElem? (i := 279) rfl
set_option maxRecDepth 100000 in
theorem mw_274 : (.code yX1_join cX1_join 14 none : Cond) ∈ lw_tbl := List.mem_of_getElem? (i := 274) rfl
set_option maxRecDepth 100000 in
theorem mw_4 : (.selects RX1 yX1_join yX1_join : Cond) ∈ lw_tbl := List.mem_of_getElem? (i := 4) rfl
set_option maxRecDepth 100000 in
theorem mw_273 : (.instanceMethod yX1_join : Cond) ∈ lw_tbl := List.mem_of_getElem? (i := 273) rfl
set_option maxRecDepth 100000 in
theorem mw_271 : (.methodLink RX1 66 yX1_join : Cond) ∈ lw_tbl := List.mem_of_getElem? (i := 271) rfl
set_option maxRecDepth 100000 in
theorem mw_270 : (.code yX1_add cX1_add 6 none : Cond) ∈ lw_tbl := List.mem_of_getElem? (i := 270) rfl
set_option maxRecDepth 100000 in
theorem mw_3 : (.selects RX1 yX1_add yX1_add : Cond) ∈ lw_tbl := List.mem_of_getElem? (i := 3) rfl
set_option maxRecDepth 100000 in
theorem mw_269 : (.instanceMethod yX1_add : Cond) ∈ lw_tbl := List.mem_of_getElem? (i := 269) rfl
set_option maxRecDepth 100000 in
theorem mw_267 : (.methodLink RX1 62 yX1_add : Cond) ∈ lw_tbl := List.mem_of_getElem? (i := 267) rfl
set_option maxRecDepth 100000 in
theorem mw_266 : (.code yX1_make cX1_make 4 none : Cond) ∈ lw_tbl := List.mem_of_getElem? (i := 266) rfl
set_option maxRecDepth 100000 in
theorem mw_2 : (.selects RX1 yX1_make yX1_make : Cond) ∈ lw_tbl := List.mem_of_getElem? (i := 2) rfl
set_option maxRecDepth 100000 in
theorem mw_265 : (.instanceMethod yX1_make : Cond) ∈ lw_tbl := List.mem_of_getElem? (i := 265) rfl
set_option maxRecDepth 100000 in
theorem mw_263 : (.methodLink RX1 59 yX1_make : Cond) ∈ lw_tbl := List.mem_of_getElem? (i := 263) rfl
set_option maxRecDepth 100000 in
theorem mw_262 : (.methodLink RX1 55 yX1_knows : Cond) ∈ lw_tbl := List.mem_of_getElem? (i := 262) rfl
set_option maxRecDepth 100000 in
theorem mw_261 : (.code yX1_forget cX1_forget 4 none : Cond) ∈ lw_tbl := List.mem_of_getElem? (i := 261) rfl
set_option maxRecDepth 100000 in
theorem mw_1 : (.selects RX1 yX1_forget yX1_forget : Cond) ∈ lw_tbl := List.mem_of_getElem? (i := 1) rfl
set_option maxRecDepth 100000 in
theorem inT_wsX5_ways_r2 : ∀ w ∈ wsX5_ways_r2, w ∈ lw_tbl := (List.forall_mem_cons.mpr ⟨mw_1, (List.forall_mem_cons.mpr ⟨mw_261, (List.forall_mem_cons.mpr ⟨mw_83, (List.forall_mem_cons.mpr ⟨mw_82, (List.forall_mem_cons.mpr ⟨mw_85, (List.forall_mem_cons.mpr ⟨mw_262, (List.forall_mem_cons.mpr ⟨mw_263, (List.forall_mem_cons.mpr ⟨mw_265, (List.forall_mem_cons.mpr ⟨mw_2, (List.forall_mem_cons.mpr ⟨mw_266, (List.forall_mem_cons.mpr ⟨mw_81, (List.forall_mem_cons.mpr ⟨mw_267, (List.forall_mem_cons.mpr ⟨mw_269, (List.forall_mem_cons.mpr ⟨mw_3, (List.forall_mem_cons.mpr ⟨mw_270, (List.forall_mem_cons.mpr ⟨mw_271, (List.forall_mem_cons.mpr ⟨mw_273, (List.forall_mem_cons.mpr ⟨mw_4, (List.forall_mem_cons.mpr ⟨mw_274, (List.forall_mem_cons.mpr ⟨mw_80, (List.forall_mem_cons.mpr ⟨mw_279, (List.forall_mem_cons.mpr ⟨mw_280, (List.forall_mem_cons.mpr ⟨mw_40, (List.forall_mem_cons.mpr ⟨mw_281, (fun _ h => absurd h List.not_mem_nil)⟩)⟩)⟩)⟩)⟩)⟩)⟩)⟩)⟩)⟩)⟩)⟩)⟩)⟩)⟩)⟩)⟩)⟩)⟩)⟩)⟩)⟩)⟩)⟩)
set_option maxRecDepth 100000 in
theorem mw_285 : (.code yX1_countOf cX1_countOf 3 (some .long) : Cond) ∈ lw_tbl := List.mem_of_getElem? (i := 285) rfl
set_option maxRecDepth 100000 in
theorem mw_284 : (.selects RX1 yX1_countOf yX1_countOf : Cond) ∈ lw_tbl := List.mem_of_getElem? (i := 284) rfl
set_option maxRecDepth 100000 in
theorem mw_283 : (.instanceMethod yX1_countOf : Cond) ∈ lw_tbl := List.mem_of_getElem? (i := 283) rfl
set_option maxRecDepth 100000 in
theorem mw_282 : (.methodLink RX5 99 yX1_countOf : Cond) ∈ lw_tbl := List.mem_of_getElem? (i := 282) rfl
set_option maxRecDepth 100000 in
theorem mw_278 : (.code yX3_allow cX3_allow 2 (some .boolean) : Cond) ∈ lw_tbl := List.mem_of_getElem? (i := 278) rfl
set_option maxRecDepth 100000 in
theorem mw_277 : (.selects RX3 yX3_allow yX3_allow : Cond) ∈ lw_tbl := List.mem_of_getElem? (i := 277) rfl
set_option maxRecDepth 100000 in
theorem mw_276 : (.instanceMethod yX3_allow : Cond) ∈ lw_tbl := List.mem_of_getElem? (i := 276) rfl
set_option maxRecDepth 100000 in
theorem mw_275 : (.methodLink RX1 70 yX3_allow : Cond) ∈ lw_tbl := List.mem_of_getElem? (i := 275) rfl
set_option maxRecDepth 100000 in
theorem inT_wsX5_ways_r3 : ∀ w ∈ wsX5_ways_r3, w ∈ lw_tbl := (List.forall_mem_cons.mpr ⟨mw_275, (List.forall_mem_cons.mpr ⟨mw_276, (List.forall_mem_cons.mpr ⟨mw_277, (List.forall_mem_cons.mpr ⟨mw_34, (List.forall_mem_cons.mpr ⟨mw_278, (List.forall_mem_cons.mpr ⟨mw_60, (List.forall_mem_cons.mpr ⟨mw_282, (List.forall_mem_cons.mpr ⟨mw_283, (List.forall_mem_cons.mpr ⟨mw_284, (List.forall_mem_cons.mpr ⟨mw_285, (fun _ h => absurd h List.not_mem_nil)⟩)⟩)⟩)⟩)⟩)⟩)⟩)⟩)⟩)⟩)
set_option maxRecDepth 100000 in
theorem inT_wsX5_ways : ∀ w ∈ wsX5_ways, w ∈ lw_tbl := (List.forall_mem_cons.mpr ⟨mw_244, (List.forall_mem_append.mpr ⟨(List.forall_mem_append.mpr ⟨(List.forall_mem_append.mpr ⟨(List.forall_mem_append.mpr ⟨inT_wsX5_ways_r1, (List.forall_mem_append.mpr ⟨inT_wsX5_ways_r2, inT_wsX5_ways_r3⟩)⟩), inT_X5⟩), inT_X1⟩), inT_X3⟩)⟩)
set_option maxRecDepth 100000 in
theorem mw_243 : (.selects RX5 yX5_ways yX5_ways : Cond) ∈ lw_tbl := List.mem_of_getElem? (i := 243) rfl
set_option maxRecDepth 100000 in
theorem mw_242 : (.instanceMethod yX5_ways : Cond) ∈ lw_tbl := List.mem_of_getElem? (i := 242) rfl
set_option maxRecDepth 100000 in
theorem mw_241 : (.methodLink RL 35 yX5_ways : Cond) ∈ lw_tbl := List.mem_of_getElem? (i := 241) rfl
set_option maxRecDepth 100000 in
theorem gT_X5_ways : GoodIn lw_tbl (wsV RL 35 RX5 yX5_ways wsX5_ways) := goodIn_sub (List.forall_mem_append.mpr ⟨(List.forall_mem_cons.mpr ⟨mw_241, (List.forall_mem_cons.mpr ⟨mw_242, (List.forall_mem_cons.mpr ⟨mw_243, (List.forall_mem_cons.mpr ⟨mw_33, (fun _ h => absurd h List.not_mem_nil)⟩)⟩)⟩)⟩), inT_wsX5_ways⟩) (by decide +kernel)
set_option maxRecDepth 100000 in
theorem mw_623 : (.code yX6_ways cX6_ways 3 (some .long) : Cond) ∈ lw_tbl := List.mem_of_getElem? (i := 623) rfl
set_option maxRecDepth 100000 in
theorem mw_636 : (.code yX6_fill cX6_fill 3 none : Cond) ∈ lw_tbl := List.mem_of_getElem? (i := 636) rfl
set_option maxRecDepth 100000 in
theorem mw_14 : (.selects RX6 yX6_fill yX6_fill : Cond) ∈ lw_tbl := List.mem_of_getElem? (i := 14) rfl
set_option maxRecDepth 100000 in
theorem mw_635 : (.instanceMethod yX6_fill : Cond) ∈ lw_tbl := List.mem_of_getElem? (i := 635) rfl
set_option maxRecDepth 100000 in
theorem mw_633 : (.methodLink RX6 107 yX6_fill : Cond) ∈ lw_tbl := List.mem_of_getElem? (i := 633) rfl
set_option maxRecDepth 100000 in
theorem mw_539 : (.fieldLink RX6 96 "SixNumbersModel" "works" "I" : Cond) ∈ lw_tbl := List.mem_of_getElem? (i := 539) rfl
set_option maxRecDepth 100000 in
theorem mw_632 : (.code yX6_heap cX6_heap 2 none : Cond) ∈ lw_tbl := List.mem_of_getElem? (i := 632) rfl
set_option maxRecDepth 100000 in
theorem mw_13 : (.selects RX6 yX6_heap yX6_heap : Cond) ∈ lw_tbl := List.mem_of_getElem? (i := 13) rfl
set_option maxRecDepth 100000 in
theorem mw_631 : (.instanceMethod yX6_heap : Cond) ∈ lw_tbl := List.mem_of_getElem? (i := 631) rfl
set_option maxRecDepth 100000 in
theorem mw_629 : (.methodLink RX6 119 yX6_heap : Cond) ∈ lw_tbl := List.mem_of_getElem? (i := 629) rfl
set_option maxRecDepth 100000 in
theorem mw_627 : (.code yX6_isSet cX6_isSet 2 (some .boolean) : Cond) ∈ lw_tbl := List.mem_of_getElem? (i := 627) rfl
set_option maxRecDepth 100000 in
theorem mw_12 : (.selects RX6 yX6_isSet yX6_isSet : Cond) ∈ lw_tbl := List.mem_of_getElem? (i := 12) rfl
set_option maxRecDepth 100000 in
theorem mw_626 : (.instanceMethod yX6_isSet : Cond) ∈ lw_tbl := List.mem_of_getElem? (i := 626) rfl
set_option maxRecDepth 100000 in
theorem mw_624 : (.methodLink RX6 114 yX6_isSet : Cond) ∈ lw_tbl := List.mem_of_getElem? (i := 624) rfl
set_option maxRecDepth 100000 in
theorem mw_628 : (.constantLong RX6 117 (-1002) : Cond) ∈ lw_tbl := List.mem_of_getElem? (i := 628) rfl
set_option maxRecDepth 100000 in
theorem inT_wsX6_ways_r1 : ∀ w ∈ wsX6_ways_r1, w ∈ lw_tbl := (List.forall_mem_cons.mpr ⟨mw_612, (List.forall_mem_cons.mpr ⟨mw_628, (List.forall_mem_cons.mpr ⟨mw_540, (List.forall_mem_cons.mpr ⟨mw_624, (List.forall_mem_cons.mpr ⟨mw_626, (List.forall_mem_cons.mpr ⟨mw_12, (List.forall_mem_cons.mpr ⟨mw_39, (List.forall_mem_cons.mpr ⟨mw_627, (List.forall_mem_cons.mpr ⟨mw_530, (List.forall_mem_cons.mpr ⟨mw_596, (List.forall_mem_cons.mpr ⟨mw_597, (List.forall_mem_cons.mpr ⟨mw_598, (List.forall_mem_cons.mpr ⟨mw_629, (List.forall_mem_cons.mpr ⟨mw_631, (List.forall_mem_cons.mpr ⟨mw_13, (List.forall_mem_cons.mpr ⟨mw_632, (List.forall_mem_cons.mpr ⟨mw_543, (List.forall_mem_cons.mpr ⟨mw_539, (List.forall_mem_cons.mpr ⟨mw_538, (List.forall_mem_cons.mpr ⟨mw_531, (List.forall_mem_cons.mpr ⟨mw_633, (List.forall_mem_cons.mpr ⟨mw_635, (List.forall_mem_cons.mpr ⟨mw_14, (List.forall_mem_cons.mpr ⟨mw_636, (fun _ h => absurd h List.not_mem_nil)⟩)⟩)⟩)⟩)⟩)⟩)⟩)⟩)⟩)⟩)⟩)⟩)⟩)⟩)⟩)⟩)⟩)⟩)⟩)⟩)⟩)⟩)⟩)⟩)
set_option maxRecDepth 100000 in
theorem mw_655 : (.code yX6_add cX6_add 6 none : Cond) ∈ lw_tbl := List.mem_of_getElem? (i := 655) rfl
set_option maxRecDepth 100000 in
theorem mw_18 : (.selects RX6 yX6_add yX6_add : Cond) ∈ lw_tbl := List.mem_of_getElem? (i := 18) rfl
set_option maxRecDepth 100000 in
theorem mw_654 : (.instanceMethod yX6_add : Cond) ∈ lw_tbl := List.mem_of_getElem? (i := 654) rfl
set_option maxRecDepth 100000 in
theorem mw_652 : (.methodLink RX6 92 yX6_add : Cond) ∈ lw_tbl := List.mem_of_getElem? (i := 652) rfl
set_option maxRecDepth 100000 in
theorem mw_651 : (.code yX6_may cX6_may 2 (some .boolean) : Cond) ∈ lw_tbl := List.mem_of_getElem? (i := 651) rfl
set_option maxRecDepth 100000 in
theorem mw_17 : (.selects RX6 yX6_may yX6_may : Cond) ∈ lw_tbl := List.mem_of_getElem? (i := 17) rfl
set_option maxRecDepth 100000 in
theorem mw_650 : (.instanceMethod yX6_may : Cond) ∈ lw_tbl := List.mem_of_getElem? (i := 650) rfl
set_option maxRecDepth 100000 in
theorem mw_648 : (.methodLink RX6 88 yX6_may : Cond) ∈ lw_tbl := List.mem_of_getElem? (i := 648) rfl
set_option maxRecDepth 100000 in
theorem mw_647 : (.code yX6_listOf cX6_listOf 5 (some .int) : Cond) ∈ lw_tbl := List.mem_of_getElem? (i := 647) rfl
set_option maxRecDepth 100000 in
theorem mw_16 : (.selects RX6 yX6_listOf yX6_listOf : Cond) ∈ lw_tbl := List.mem_of_getElem? (i := 16) rfl
set_option maxRecDepth 100000 in
theorem mw_646 : (.instanceMethod yX6_listOf : Cond) ∈ lw_tbl := List.mem_of_getElem? (i := 646) rfl
set_option maxRecDepth 100000 in
theorem mw_644 : (.methodLink RX6 84 yX6_listOf : Cond) ∈ lw_tbl := List.mem_of_getElem? (i := 644) rfl
set_option maxRecDepth 100000 in
theorem mw_643 : (.code yX6_join cX6_join 13 none : Cond) ∈ lw_tbl := List.mem_of_getElem? (i := 643) rfl
set_option maxRecDepth 100000 in
theorem mw_15 : (.selects RX6 yX6_join yX6_join : Cond) ∈ lw_tbl := List.mem_of_getElem? (i := 15) rfl
set_option maxRecDepth 100000 in
theorem mw_642 : (.instanceMethod yX6_join : Cond) ∈ lw_tbl := List.mem_of_getElem? (i := 642) rfl
set_option maxRecDepth 100000 in
theorem mw_640 : (.methodLink RX6 103 yX6_join : Cond) ∈ lw_tbl := List.mem_of_getElem? (i := 640) rfl
set_option maxRecDepth 100000 in
theorem mw_639 : (.code yX6_bits cX6_bits 3 (some .int) : Cond) ∈ lw_tbl := List.mem_of_getElem? (i := 639) rfl
set_option maxRecDepth 100000 in
theorem mw_638 : (.static yX6_bits : Cond) ∈ lw_tbl := List.mem_of_getElem? (i := 638) rfl
set_option maxRecDepth 100000 in
theorem mw_637 : (.methodLink RX6 99 yX6_bits : Cond) ∈ lw_tbl := List.mem_of_getElem? (i := 637) rfl
set_option maxRecDepth 100000 in
theorem inT_wsX6_ways_r2 : ∀ w ∈ wsX6_ways_r2, w ∈ lw_tbl := (List.forall_mem_cons.mpr ⟨mw_637, (List.forall_mem_cons.mpr ⟨mw_638, (List.forall_mem_cons.mpr ⟨mw_639, (List.forall_mem_cons.mpr ⟨mw_640, (List.forall_mem_cons.mpr ⟨mw_642, (List.forall_mem_cons.mpr ⟨mw_15, (List.forall_mem_cons.mpr ⟨mw_643, (List.forall_mem_cons.mpr ⟨mw_541, (List.forall_mem_cons.mpr ⟨mw_542, (List.forall_mem_cons.mpr ⟨mw_644, (List.forall_mem_cons.mpr ⟨mw_646, (List.forall_mem_cons.mpr ⟨mw_16, (List.forall_mem_cons.mpr ⟨mw_647, (List.forall_mem_cons.mpr ⟨mw_648, (List.forall_mem_cons.mpr ⟨mw_650, (List.forall_mem_cons.mpr ⟨mw_17, (List.forall_mem_cons.mpr ⟨mw_651, (List.forall_mem_cons.mpr ⟨mw_532, (List.forall_mem_cons.mpr ⟨mw_652, (List.forall_mem_cons.mpr ⟨mw_654, (List.forall_mem_cons.mpr ⟨mw_18, (List.forall_mem_cons.mpr ⟨mw_655, (List.forall_mem_cons.mpr ⟨mw_533, (fun _ h => absurd h List.not_mem_nil)⟩)⟩)⟩)⟩)⟩)⟩)⟩)⟩)⟩)⟩)⟩)⟩)⟩)⟩)⟩)⟩)⟩)⟩)⟩)⟩)⟩)⟩)⟩)
set_option maxRecDepth 100000 in
theorem inT_wsX6_ways : ∀ w ∈ wsX6_ways, w ∈ lw_tbl := (List.forall_mem_cons.mpr ⟨mw_623, (List.forall_mem_append.mpr ⟨(List.forall_mem_append.mpr ⟨inT_wsX6_ways_r1, inT_wsX6_ways_r2⟩), inT_X6⟩)⟩)
set_option maxRecDepth 100000 in
theorem mw_622 : (.selects RX6 yX6_ways yX6_ways : Cond) ∈ lw_tbl := List.mem_of_getElem? (i := 622) rfl
set_option maxRecDepth 100000 in
theorem mw_621 : (.instanceMethod yX6_ways : Cond) ∈ lw_tbl := List.mem_of_getElem? (i := 621) rfl
set_option maxRecDepth 100000 in
theorem mw_620 : (.methodLink RL 39 yX6_ways : Cond) ∈ lw_tbl := List.mem_of_getElem? (i := 620) rfl
set_option maxRecDepth 100000 in
theorem gT_X6_ways : GoodIn lw_tbl (wsV RL 39 RX6 yX6_ways wsX6_ways) := goodIn_sub (List.forall_mem_append.mpr ⟨(List.forall_mem_cons.mpr ⟨mw_620, (List.forall_mem_cons.mpr ⟨mw_621, (List.forall_mem_cons.mpr ⟨mw_622, (List.forall_mem_cons.mpr ⟨mw_39, (fun _ h => absurd h List.not_mem_nil)⟩)⟩)⟩)⟩), inT_wsX6_ways⟩) (by decide +kernel)
set_option maxRecDepth 100000 in
theorem mw_289 : (.code yX5_all cX5_all 2 (some .long) : Cond) ∈ lw_tbl := List.mem_of_getElem? (i := 289) rfl
set_option maxRecDepth 100000 in
theorem inT_wsX5_all_r1 : ∀ w ∈ wsX5_all_r1, w ∈ lw_tbl := (List.forall_mem_cons.mpr ⟨mw_253, (List.forall_mem_cons.mpr ⟨mw_170, (List.forall_mem_cons.mpr ⟨mw_192, (List.forall_mem_cons.mpr ⟨mw_193, (List.forall_mem_cons.mpr ⟨mw_33, (List.forall_mem_cons.mpr ⟨mw_194, (List.forall_mem_cons.mpr ⟨mw_254, (List.forall_mem_cons.mpr ⟨mw_255, (List.forall_mem_cons.mpr ⟨mw_256, (List.forall_mem_cons.mpr ⟨mw_35, (List.forall_mem_cons.mpr ⟨mw_257, (List.forall_mem_cons.mpr ⟨mw_88, (List.forall_mem_cons.mpr ⟨mw_84, (List.forall_mem_cons.mpr ⟨mw_258, (List.forall_mem_cons.mpr ⟨mw_260, (List.forall_mem_cons.mpr ⟨mw_1, (List.forall_mem_cons.mpr ⟨mw_261, (List.forall_mem_cons.mpr ⟨mw_83, (List.forall_mem_cons.mpr ⟨mw_82, (List.forall_mem_cons.mpr ⟨mw_85, (List.forall_mem_cons.mpr ⟨mw_262, (List.forall_mem_cons.mpr ⟨mw_250, (List.forall_mem_cons.mpr ⟨mw_251, (List.forall_mem_cons.mpr ⟨mw_252, (fun _ h => absurd h List.not_mem_nil)⟩)⟩)⟩)⟩)⟩)⟩)⟩)⟩)⟩)⟩)⟩)⟩)⟩)⟩)⟩)⟩)⟩)⟩)⟩)⟩)⟩)⟩)⟩)⟩)
set_option maxRecDepth 100000 in
theorem inT_wsX5_all_r2 : ∀ w ∈ wsX5_all_r2, w ∈ lw_tbl := (List.forall_mem_cons.mpr ⟨mw_86, (List.forall_mem_cons.mpr ⟨mw_263, (List.forall_mem_cons.mpr ⟨mw_265, (List.forall_mem_cons.mpr ⟨mw_2, (List.forall_mem_cons.mpr ⟨mw_266, (List.forall_mem_cons.mpr ⟨mw_81, (List.forall_mem_cons.mpr ⟨mw_267, (List.forall_mem_cons.mpr ⟨mw_269, (List.forall_mem_cons.mpr ⟨mw_3, (List.forall_mem_cons.mpr ⟨mw_270, (List.forall_mem_cons.mpr ⟨mw_271, (List.forall_mem_cons.mpr ⟨mw_273, (List.forall_mem_cons.mpr ⟨mw_4, (List.forall_mem_cons.mpr ⟨mw_274, (List.forall_mem_cons.mpr ⟨mw_80, (List.forall_mem_cons.mpr ⟨mw_279, (List.forall_mem_cons.mpr ⟨mw_280, (List.forall_mem_cons.mpr ⟨mw_40, (List.forall_mem_cons.mpr ⟨mw_281, (List.forall_mem_cons.mpr ⟨mw_275, (List.forall_mem_cons.mpr ⟨mw_276, (List.forall_mem_cons.mpr ⟨mw_277, (List.forall_mem_cons.mpr ⟨mw_34, (List.forall_mem_cons.mpr ⟨mw_278, (fun _ h => absurd h List.not_mem_nil)⟩)⟩)⟩)⟩)⟩)⟩)⟩)⟩)⟩)⟩)⟩)⟩)⟩)⟩)⟩)⟩)⟩)⟩)⟩)⟩)⟩)⟩)⟩)⟩)
set_option maxRecDepth 100000 in
theorem mw_294 : (.methodLink RX1 82 yX1_countOf : Cond) ∈ lw_tbl := List.mem_of_getElem? (i := 294) rfl
set_option maxRecDepth 100000 in
theorem mw_293 : (.code yX1_countOfAllSets cX1_countOfAllSets 5 (some .long) : Cond) ∈ lw_tbl := List.mem_of_getElem? (i := 293) rfl
set_option maxRecDepth 100000 in
theorem mw_292 : (.selects RX1 yX1_countOfAllSets yX1_countOfAllSets : Cond) ∈ lw_tbl := List.mem_of_getElem? (i := 292) rfl
set_option maxRecDepth 100000 in
theorem mw_291 : (.instanceMethod yX1_countOfAllSets : Cond) ∈ lw_tbl := List.mem_of_getElem? (i := 291) rfl
set_option maxRecDepth 100000 in
theorem mw_290 : (.methodLink RX5 103 yX1_countOfAllSets : Cond) ∈ lw_tbl := List.mem_of_getElem? (i := 290) rfl
set_option maxRecDepth 100000 in
theorem inT_wsX5_all_r3 : ∀ w ∈ wsX5_all_r3, w ∈ lw_tbl := (List.forall_mem_cons.mpr ⟨mw_60, (List.forall_mem_cons.mpr ⟨mw_290, (List.forall_mem_cons.mpr ⟨mw_291, (List.forall_mem_cons.mpr ⟨mw_292, (List.forall_mem_cons.mpr ⟨mw_293, (List.forall_mem_cons.mpr ⟨mw_294, (List.forall_mem_cons.mpr ⟨mw_283, (List.forall_mem_cons.mpr ⟨mw_284, (List.forall_mem_cons.mpr ⟨mw_285, (fun _ h => absurd h List.not_mem_nil)⟩)⟩)⟩)⟩)⟩)⟩)⟩)⟩)⟩)
set_option maxRecDepth 100000 in
theorem inT_wsX5_all : ∀ w ∈ wsX5_all, w ∈ lw_tbl := (List.forall_mem_cons.mpr ⟨mw_289, (List.forall_mem_append.mpr ⟨(List.forall_mem_append.mpr ⟨(List.forall_mem_append.mpr ⟨(List.forall_mem_append.mpr ⟨inT_wsX5_all_r1, (List.forall_mem_append.mpr ⟨inT_wsX5_all_r2, inT_wsX5_all_r3⟩)⟩), inT_X5⟩), inT_X1⟩), inT_X3⟩)⟩)
set_option maxRecDepth 100000 in
theorem mw_288 : (.selects RX5 yX5_all yX5_all : Cond) ∈ lw_tbl := List.mem_of_getElem? (i := 288) rfl
set_option maxRecDepth 100000 in
theorem mw_287 : (.instanceMethod yX5_all : Cond) ∈ lw_tbl := List.mem_of_getElem? (i := 287) rfl
set_option maxRecDepth 100000 in
theorem mw_286 : (.methodLink RL 40 yX5_all : Cond) ∈ lw_tbl := List.mem_of_getElem? (i := 286) rfl
set_option maxRecDepth 100000 in
theorem gT_X5_all : GoodIn lw_tbl (wsV RL 40 RX5 yX5_all wsX5_all) := goodIn_sub (List.forall_mem_append.mpr ⟨(List.forall_mem_cons.mpr ⟨mw_286, (List.forall_mem_cons.mpr ⟨mw_287, (List.forall_mem_cons.mpr ⟨mw_288, (List.forall_mem_cons.mpr ⟨mw_33, (fun _ h => absurd h List.not_mem_nil)⟩)⟩)⟩)⟩), inT_wsX5_all⟩) (by decide +kernel)
set_option maxRecDepth 100000 in
theorem mw_659 : (.code yX6_all cX6_all 2 (some .long) : Cond) ∈ lw_tbl := List.mem_of_getElem? (i := 659) rfl
set_option maxRecDepth 100000 in
theorem inT_wsX6_all_r1 : ∀ w ∈ wsX6_all_r1, w ∈ lw_tbl := (List.forall_mem_cons.mpr ⟨mw_612, (List.forall_mem_cons.mpr ⟨mw_628, (List.forall_mem_cons.mpr ⟨mw_596, (List.forall_mem_cons.mpr ⟨mw_597, (List.forall_mem_cons.mpr ⟨mw_39, (List.forall_mem_cons.mpr ⟨mw_598, (List.forall_mem_cons.mpr ⟨mw_629, (List.forall_mem_cons.mpr ⟨mw_631, (List.forall_mem_cons.mpr ⟨mw_13, (List.forall_mem_cons.mpr ⟨mw_632, (List.forall_mem_cons.mpr ⟨mw_543, (List.forall_mem_cons.mpr ⟨mw_530, (List.forall_mem_cons.mpr ⟨mw_539, (List.forall_mem_cons.mpr ⟨mw_538, (List.forall_mem_cons.mpr ⟨mw_531, (List.forall_mem_cons.mpr ⟨mw_633, (List.forall_mem_cons.mpr ⟨mw_635, (List.forall_mem_cons.mpr ⟨mw_14, (List.forall_mem_cons.mpr ⟨mw_636, (List.forall_mem_cons.mpr ⟨mw_540, (List.forall_mem_cons.mpr ⟨mw_637, (List.forall_mem_cons.mpr ⟨mw_638, (List.forall_mem_cons.mpr ⟨mw_639, (List.forall_mem_cons.mpr ⟨mw_640, (fun _ h => absurd h List.not_mem_nil)⟩)⟩)⟩)⟩)⟩)⟩)⟩)⟩)⟩)⟩)⟩)⟩)⟩)⟩)⟩)⟩)⟩)⟩)⟩)⟩)⟩)⟩)⟩)⟩)
set_option maxRecDepth 100000 in
theorem mw_663 : (.code yX6_allOf cX6_allOf 5 (some .long) : Cond) ∈ lw_tbl := List.mem_of_getElem? (i := 663) rfl
set_option maxRecDepth 100000 in
theorem mw_19 : (.selects RX6 yX6_allOf yX6_allOf : Cond) ∈ lw_tbl := List.mem_of_getElem? (i := 19) rfl
set_option maxRecDepth 100000 in
theorem mw_662 : (.instanceMethod yX6_allOf : Cond) ∈ lw_tbl := List.mem_of_getElem? (i := 662) rfl
set_option maxRecDepth 100000 in
theorem mw_660 : (.methodLink RX6 110 yX6_allOf : Cond) ∈ lw_tbl := List.mem_of_getElem? (i := 660) rfl
set_option maxRecDepth 100000 in
theorem inT_wsX6_all_r2 : ∀ w ∈ wsX6_all_r2, w ∈ lw_tbl := (List.forall_mem_cons.mpr ⟨mw_642, (List.forall_mem_cons.mpr ⟨mw_15, (List.forall_mem_cons.mpr ⟨mw_643, (List.forall_mem_cons.mpr ⟨mw_541, (List.forall_mem_cons.mpr ⟨mw_542, (List.forall_mem_cons.mpr ⟨mw_644, (List.forall_mem_cons.mpr ⟨mw_646, (List.forall_mem_cons.mpr ⟨mw_16, (List.forall_mem_cons.mpr ⟨mw_647, (List.forall_mem_cons.mpr ⟨mw_648, (List.forall_mem_cons.mpr ⟨mw_650, (List.forall_mem_cons.mpr ⟨mw_17, (List.forall_mem_cons.mpr ⟨mw_651, (List.forall_mem_cons.mpr ⟨mw_532, (List.forall_mem_cons.mpr ⟨mw_652, (List.forall_mem_cons.mpr ⟨mw_654, (List.forall_mem_cons.mpr ⟨mw_18, (List.forall_mem_cons.mpr ⟨mw_655, (List.forall_mem_cons.mpr ⟨mw_533, (List.forall_mem_cons.mpr ⟨mw_660, (List.forall_mem_cons.mpr ⟨mw_662, (List.forall_mem_cons.mpr ⟨mw_19, (List.forall_mem_cons.mpr ⟨mw_663, (fun _ h => absurd h List.not_mem_nil)⟩)⟩)⟩)⟩)⟩)⟩)⟩)⟩)⟩)⟩)⟩)⟩)⟩)⟩)⟩)⟩)⟩)⟩)⟩)⟩)⟩)⟩)⟩)
set_option maxRecDepth 100000 in
theorem inT_wsX6_all : ∀ w ∈ wsX6_all, w ∈ lw_tbl := (List.forall_mem_cons.mpr ⟨mw_659, (List.forall_mem_append.mpr ⟨(List.forall_mem_append.mpr ⟨inT_wsX6_all_r1, inT_wsX6_all_r2⟩), inT_X6⟩)⟩)
set_option maxRecDepth 100000 in
theorem mw_658 : (.selects RX6 yX6_all yX6_all : Cond) ∈ lw_tbl := List.mem_of_getElem? (i := 658) rfl
set_option maxRecDepth 100000 in
theorem mw_657 : (.instanceMethod yX6_all : Cond) ∈ lw_tbl := List.mem_of_getElem? (i := 657) rfl
set_option maxRecDepth 100000 in
theorem mw_656 : (.methodLink RL 44 yX6_all : Cond) ∈ lw_tbl := List.mem_of_getElem? (i := 656) rfl
set_option maxRecDepth 100000 in
theorem gT_X6_all : GoodIn lw_tbl (wsV RL 44 RX6 yX6_all wsX6_all) := goodIn_sub (List.forall_mem_append.mpr ⟨(List.forall_mem_cons.mpr ⟨mw_656, (List.forall_mem_cons.mpr ⟨mw_657, (List.forall_mem_cons.mpr ⟨mw_658, (List.forall_mem_cons.mpr ⟨mw_39, (fun _ h => absurd h List.not_mem_nil)⟩)⟩)⟩)⟩), inT_wsX6_all⟩) (by decide +kernel)
set_option maxRecDepth 100000 in
theorem mw_298 : (.code yX5_reached cX5_reached 2 (some .int) : Cond) ∈ lw_tbl := List.mem_of_getElem? (i := 298) rfl
set_option maxRecDepth 100000 in
theorem inT_wsX5_reached_r1 : ∀ w ∈ wsX5_reached_r1, w ∈ lw_tbl := (List.forall_mem_cons.mpr ⟨mw_170, (List.forall_mem_cons.mpr ⟨mw_249, (List.forall_mem_cons.mpr ⟨mw_250, (List.forall_mem_cons.mpr ⟨mw_251, (List.forall_mem_cons.mpr ⟨mw_35, (List.forall_mem_cons.mpr ⟨mw_252, (List.forall_mem_cons.mpr ⟨mw_86, (List.forall_mem_cons.mpr ⟨mw_254, (List.forall_mem_cons.mpr ⟨mw_255, (List.forall_mem_cons.mpr ⟨mw_256, (List.forall_mem_cons.mpr ⟨mw_257, (List.forall_mem_cons.mpr ⟨mw_88, (List.forall_mem_cons.mpr ⟨mw_84, (List.forall_mem_cons.mpr ⟨mw_258, (List.forall_mem_cons.mpr ⟨mw_260, (List.forall_mem_cons.mpr ⟨mw_1, (List.forall_mem_cons.mpr ⟨mw_261, (List.forall_mem_cons.mpr ⟨mw_83, (List.forall_mem_cons.mpr ⟨mw_82, (List.forall_mem_cons.mpr ⟨mw_85, (List.forall_mem_cons.mpr ⟨mw_262, (List.forall_mem_cons.mpr ⟨mw_263, (List.forall_mem_cons.mpr ⟨mw_265, (List.forall_mem_cons.mpr ⟨mw_2, (fun _ h => absurd h List.not_mem_nil)⟩)⟩)⟩)⟩)⟩)⟩)⟩)⟩)⟩)⟩)⟩)⟩)⟩)⟩)⟩)⟩)⟩)⟩)⟩)⟩)⟩)⟩)⟩)⟩)
set_option maxRecDepth 100000 in
theorem mw_301 : (.selects RX1 yX1_numbersOf yX1_numbersOf : Cond) ∈ lw_tbl := List.mem_of_getElem? (i := 301) rfl
set_option maxRecDepth 100000 in
theorem mw_300 : (.instanceMethod yX1_numbersOf : Cond) ∈ lw_tbl := List.mem_of_getElem? (i := 300) rfl
set_option maxRecDepth 100000 in
theorem mw_299 : (.methodLink RX5 110 yX1_numbersOf : Cond) ∈ lw_tbl := List.mem_of_getElem? (i := 299) rfl
set_option maxRecDepth 100000 in
theorem inT_wsX5_reached_r2 : ∀ w ∈ wsX5_reached_r2, w ∈ lw_tbl := (List.forall_mem_cons.mpr ⟨mw_266, (List.forall_mem_cons.mpr ⟨mw_81, (List.forall_mem_cons.mpr ⟨mw_267, (List.forall_mem_cons.mpr ⟨mw_269, (List.forall_mem_cons.mpr ⟨mw_3, (List.forall_mem_cons.mpr ⟨mw_270, (List.forall_mem_cons.mpr ⟨mw_271, (List.forall_mem_cons.mpr ⟨mw_273, (List.forall_mem_cons.mpr ⟨mw_4, (List.forall_mem_cons.mpr ⟨mw_274, (List.forall_mem_cons.mpr ⟨mw_80, (List.forall_mem_cons.mpr ⟨mw_279, (List.forall_mem_cons.mpr ⟨mw_280, (List.forall_mem_cons.mpr ⟨mw_40, (List.forall_mem_cons.mpr ⟨mw_281, (List.forall_mem_cons.mpr ⟨mw_275, (List.forall_mem_cons.mpr ⟨mw_276, (List.forall_mem_cons.mpr ⟨mw_277, (List.forall_mem_cons.mpr ⟨mw_34, (List.forall_mem_cons.mpr ⟨mw_278, (List.forall_mem_cons.mpr ⟨mw_60, (List.forall_mem_cons.mpr ⟨mw_299, (List.forall_mem_cons.mpr ⟨mw_300, (List.forall_mem_cons.mpr ⟨mw_301, (fun _ h => absurd h List.not_mem_nil)⟩)⟩)⟩)⟩)⟩)⟩)⟩)⟩)⟩)⟩)⟩)⟩)⟩)⟩)⟩)⟩)⟩)⟩)⟩)⟩)⟩)⟩)⟩)⟩)
set_option maxRecDepth 100000 in
theorem mw_310 : (.code yX1_reaches cX1_reaches 2 (some .boolean) : Cond) ∈ lw_tbl := List.mem_of_getElem? (i := 310) rfl
set_option maxRecDepth 100000 in
theorem mw_309 : (.selects RX1 yX1_reaches yX1_reaches : Cond) ∈ lw_tbl := List.mem_of_getElem? (i := 309) rfl
set_option maxRecDepth 100000 in
theorem mw_308 : (.instanceMethod yX1_reaches : Cond) ∈ lw_tbl := List.mem_of_getElem? (i := 308) rfl
set_option maxRecDepth 100000 in
theorem mw_307 : (.methodLink RX1 86 yX1_reaches : Cond) ∈ lw_tbl := List.mem_of_getElem? (i := 307) rfl
set_option maxRecDepth 100000 in
theorem mw_306 : (.code yX1_has cX1_has 3 (some .boolean) : Cond) ∈ lw_tbl := List.mem_of_getElem? (i := 306) rfl
set_option maxRecDepth 100000 in
theorem mw_5 : (.selects RX1 yX1_has yX1_has : Cond) ∈ lw_tbl := List.mem_of_getElem? (i := 5) rfl
set_option maxRecDepth 100000 in
theorem mw_305 : (.instanceMethod yX1_has : Cond) ∈ lw_tbl := List.mem_of_getElem? (i := 305) rfl
set_option maxRecDepth 100000 in
theorem mw_303 : (.methodLink RX1 89 yX1_has : Cond) ∈ lw_tbl := List.mem_of_getElem? (i := 303) rfl
set_option maxRecDepth 100000 in
theorem mw_302 : (.code yX1_numbersOf cX1_numbersOf 4 (some .int) : Cond) ∈ lw_tbl := List.mem_of_getElem? (i := 302) rfl
set_option maxRecDepth 100000 in
theorem inT_wsX5_reached_r3 : ∀ w ∈ wsX5_reached_r3, w ∈ lw_tbl := (List.forall_mem_cons.mpr ⟨mw_302, (List.forall_mem_cons.mpr ⟨mw_303, (List.forall_mem_cons.mpr ⟨mw_305, (List.forall_mem_cons.mpr ⟨mw_5, (List.forall_mem_cons.mpr ⟨mw_306, (List.forall_mem_cons.mpr ⟨mw_307, (List.forall_mem_cons.mpr ⟨mw_308, (List.forall_mem_cons.mpr ⟨mw_309, (List.forall_mem_cons.mpr ⟨mw_310, (List.forall_mem_cons.mpr ⟨mw_294, (List.forall_mem_cons.mpr ⟨mw_283, (List.forall_mem_cons.mpr ⟨mw_284, (List.forall_mem_cons.mpr ⟨mw_285, (fun _ h => absurd h List.not_mem_nil)⟩)⟩)⟩)⟩)⟩)⟩)⟩)⟩)⟩)⟩)⟩)⟩)⟩)
set_option maxRecDepth 100000 in
theorem inT_wsX5_reached : ∀ w ∈ wsX5_reached, w ∈ lw_tbl := (List.forall_mem_cons.mpr ⟨mw_298, (List.forall_mem_append.mpr ⟨(List.forall_mem_append.mpr ⟨(List.forall_mem_append.mpr ⟨(List.forall_mem_append.mpr ⟨inT_wsX5_reached_r1, (List.forall_mem_append.mpr ⟨inT_wsX5_reached_r2, inT_wsX5_reached_r3⟩)⟩), inT_X5⟩), inT_X1⟩), inT_X3⟩)⟩)
set_option maxRecDepth 100000 in
theorem mw_297 : (.selects RX5 yX5_reached yX5_reached : Cond) ∈ lw_tbl := List.mem_of_getElem? (i := 297) rfl
set_option maxRecDepth 100000 in
theorem mw_296 : (.instanceMethod yX5_reached : Cond) ∈ lw_tbl := List.mem_of_getElem? (i := 296) rfl
set_option maxRecDepth 100000 in
theorem mw_295 : (.methodLink RL 45 yX5_reached : Cond) ∈ lw_tbl := List.mem_of_getElem? (i := 295) rfl
set_option maxRecDepth 100000 in
theorem gT_X5_reached : GoodIn lw_tbl (wsV RL 45 RX5 yX5_reached wsX5_reached) := goodIn_sub (List.forall_mem_append.mpr ⟨(List.forall_mem_cons.mpr ⟨mw_295, (List.forall_mem_cons.mpr ⟨mw_296, (List.forall_mem_cons.mpr ⟨mw_297, (List.forall_mem_cons.mpr ⟨mw_33, (fun _ h => absurd h List.not_mem_nil)⟩)⟩)⟩)⟩), inT_wsX5_reached⟩) (by decide +kernel)
set_option maxRecDepth 100000 in
theorem mw_667 : (.code yX6_reached cX6_reached 4 (some .int) : Cond) ∈ lw_tbl := List.mem_of_getElem? (i := 667) rfl
set_option maxRecDepth 100000 in
theorem inT_wsX6_reached_r1 : ∀ w ∈ wsX6_reached_r1, w ∈ lw_tbl := (List.forall_mem_cons.mpr ⟨mw_624, (List.forall_mem_cons.mpr ⟨mw_626, (List.forall_mem_cons.mpr ⟨mw_12, (List.forall_mem_cons.mpr ⟨mw_39, (List.forall_mem_cons.mpr ⟨mw_627, (List.forall_mem_cons.mpr ⟨mw_530, (List.forall_mem_cons.mpr ⟨mw_596, (List.forall_mem_cons.mpr ⟨mw_597, (List.forall_mem_cons.mpr ⟨mw_598, (List.forall_mem_cons.mpr ⟨mw_629, (List.forall_mem_cons.mpr ⟨mw_631, (List.forall_mem_cons.mpr ⟨mw_13, (List.forall_mem_cons.mpr ⟨mw_632, (List.forall_mem_cons.mpr ⟨mw_543, (List.forall_mem_cons.mpr ⟨mw_539, (List.forall_mem_cons.mpr ⟨mw_538, (List.forall_mem_cons.mpr ⟨mw_531, (List.forall_mem_cons.mpr ⟨mw_633, (List.forall_mem_cons.mpr ⟨mw_635, (List.forall_mem_cons.mpr ⟨mw_14, (List.forall_mem_cons.mpr ⟨mw_636, (List.forall_mem_cons.mpr ⟨mw_540, (List.forall_mem_cons.mpr ⟨mw_637, (List.forall_mem_cons.mpr ⟨mw_638, (fun _ h => absurd h List.not_mem_nil)⟩)⟩)⟩)⟩)⟩)⟩)⟩)⟩)⟩)⟩)⟩)⟩)⟩)⟩)⟩)⟩)⟩)⟩)⟩)⟩)⟩)⟩)⟩)⟩)
set_option maxRecDepth 100000 in
theorem mw_20 : (.selects RX6 yX6_has yX6_has : Cond) ∈ lw_tbl := List.mem_of_getElem? (i := 20) rfl
set_option maxRecDepth 100000 in
theorem mw_670 : (.instanceMethod yX6_has : Cond) ∈ lw_tbl := List.mem_of_getElem? (i := 670) rfl
set_option maxRecDepth 100000 in
theorem mw_668 : (.methodLink RX6 125 yX6_has : Cond) ∈ lw_tbl := List.mem_of_getElem? (i := 668) rfl
set_option maxRecDepth 100000 in
theorem inT_wsX6_reached_r2 : ∀ w ∈ wsX6_reached_r2, w ∈ lw_tbl := (List.forall_mem_cons.mpr ⟨mw_639, (List.forall_mem_cons.mpr ⟨mw_640, (List.forall_mem_cons.mpr ⟨mw_642, (List.forall_mem_cons.mpr ⟨mw_15, (List.forall_mem_cons.mpr ⟨mw_643, (List.forall_mem_cons.mpr ⟨mw_541, (List.forall_mem_cons.mpr ⟨mw_542, (List.forall_mem_cons.mpr ⟨mw_644, (List.forall_mem_cons.mpr ⟨mw_646, (List.forall_mem_cons.mpr ⟨mw_16, (List.forall_mem_cons.mpr ⟨mw_647, (List.forall_mem_cons.mpr ⟨mw_648, (List.forall_mem_cons.mpr ⟨mw_650, (List.forall_mem_cons.mpr ⟨mw_17, (List.forall_mem_cons.mpr ⟨mw_651, (List.forall_mem_cons.mpr ⟨mw_532, (List.forall_mem_cons.mpr ⟨mw_652, (List.forall_mem_cons.mpr ⟨mw_654, (List.forall_mem_cons.mpr ⟨mw_18, (List.forall_mem_cons.mpr ⟨mw_655, (List.forall_mem_cons.mpr ⟨mw_533, (List.forall_mem_cons.mpr ⟨mw_668, (List.forall_mem_cons.mpr ⟨mw_670, (List.forall_mem_cons.mpr ⟨mw_20, (fun _ h => absurd h List.not_mem_nil)⟩)⟩)⟩)⟩)⟩)⟩)⟩)⟩)⟩)⟩)⟩)⟩)⟩)⟩)⟩)⟩)⟩)⟩)⟩)⟩)⟩)⟩)⟩)⟩)
set_option maxRecDepth 100000 in
theorem mw_675 : (.code yX6_isReached cX6_isReached 2 (some .boolean) : Cond) ∈ lw_tbl := List.mem_of_getElem? (i := 675) rfl
set_option maxRecDepth 100000 in
theorem mw_21 : (.selects RX6 yX6_isReached yX6_isReached : Cond) ∈ lw_tbl := List.mem_of_getElem? (i := 21) rfl
set_option maxRecDepth 100000 in
theorem mw_674 : (.instanceMethod yX6_isReached : Cond) ∈ lw_tbl := List.mem_of_getElem? (i := 674) rfl
set_option maxRecDepth 100000 in
theorem mw_672 : (.methodLink RX6 122 yX6_isReached : Cond) ∈ lw_tbl := List.mem_of_getElem? (i := 672) rfl
set_option maxRecDepth 100000 in
theorem mw_671 : (.code yX6_has cX6_has 3 (some .boolean) : Cond) ∈ lw_tbl := List.mem_of_getElem? (i := 671) rfl
set_option maxRecDepth 100000 in
theorem inT_wsX6_reached_r3 : ∀ w ∈ wsX6_reached_r3, w ∈ lw_tbl := (List.forall_mem_cons.mpr ⟨mw_671, (List.forall_mem_cons.mpr ⟨mw_672, (List.forall_mem_cons.mpr ⟨mw_674, (List.forall_mem_cons.mpr ⟨mw_21, (List.forall_mem_cons.mpr ⟨mw_675, (List.forall_mem_cons.mpr ⟨mw_660, (List.forall_mem_cons.mpr ⟨mw_662, (List.forall_mem_cons.mpr ⟨mw_19, (List.forall_mem_cons.mpr ⟨mw_663, (fun _ h => absurd h List.not_mem_nil)⟩)⟩)⟩)⟩)⟩)⟩)⟩)⟩)⟩)
set_option maxRecDepth 100000 in
theorem inT_wsX6_reached : ∀ w ∈ wsX6_reached, w ∈ lw_tbl := (List.forall_mem_cons.mpr ⟨mw_667, (List.forall_mem_append.mpr ⟨(List.forall_mem_append.mpr ⟨inT_wsX6_reached_r1, (List.forall_mem_append.mpr ⟨inT_wsX6_reached_r2, inT_wsX6_reached_r3⟩)⟩), inT_X6⟩)⟩)
set_option maxRecDepth 100000 in
theorem mw_666 : (.selects RX6 yX6_reached yX6_reached : Cond) ∈ lw_tbl := List.mem_of_getElem? (i := 666) rfl
set_option maxRecDepth 100000 in
theorem mw_665 : (.instanceMethod yX6_reached : Cond) ∈ lw_tbl := List.mem_of_getElem? (i := 665) rfl
set_option maxRecDepth 100000 in
theorem mw_664 : (.methodLink RL 48 yX6_reached : Cond) ∈ lw_tbl := List.mem_of_getElem? (i := 664) rfl
set_option maxRecDepth 100000 in
theorem gT_X6_reached : GoodIn lw_tbl (wsV RL 48 RX6 yX6_reached wsX6_reached) := goodIn_sub (List.forall_mem_append.mpr ⟨(List.forall_mem_cons.mpr ⟨mw_664, (List.forall_mem_cons.mpr ⟨mw_665, (List.forall_mem_cons.mpr ⟨mw_666, (List.forall_mem_cons.mpr ⟨mw_39, (fun _ h => absurd h List.not_mem_nil)⟩)⟩)⟩)⟩), inT_wsX6_reached⟩) (by decide +kernel)
set_option maxRecDepth 100000 in
theorem mw_314 : (.code yX5_value cX5_value 3 (some .int) : Cond) ∈ lw_tbl := List.mem_of_getElem? (i := 314) rfl
set_option maxRecDepth 100000 in
theorem inT_wsX5_value_r1 : ∀ w ∈ wsX5_value_r1, w ∈ lw_tbl := (List.forall_mem_cons.mpr ⟨mw_170, (List.forall_mem_cons.mpr ⟨mw_249, (List.forall_mem_cons.mpr ⟨mw_250, (List.forall_mem_cons.mpr ⟨mw_251, (List.forall_mem_cons.mpr ⟨mw_35, (List.forall_mem_cons.mpr ⟨mw_252, (List.forall_mem_cons.mpr ⟨mw_86, (List.forall_mem_cons.mpr ⟨mw_254, (List.forall_mem_cons.mpr ⟨mw_255, (List.forall_mem_cons.mpr ⟨mw_256, (List.forall_mem_cons.mpr ⟨mw_257, (List.forall_mem_cons.mpr ⟨mw_88, (List.forall_mem_cons.mpr ⟨mw_84, (List.forall_mem_cons.mpr ⟨mw_258, (List.forall_mem_cons.mpr ⟨mw_260, (List.forall_mem_cons.mpr ⟨mw_1, (List.forall_mem_cons.mpr ⟨mw_261, (List.forall_mem_cons.mpr ⟨mw_83, (List.forall_mem_cons.mpr ⟨mw_82, (List.forall_mem_cons.mpr ⟨mw_85, (List.forall_mem_cons.mpr ⟨mw_262, (List.forall_mem_cons.mpr ⟨mw_263, (List.forall_mem_cons.mpr ⟨mw_265, (List.forall_mem_cons.mpr ⟨mw_2, (fun _ h => absurd h List.not_mem_nil)⟩)⟩)⟩)⟩)⟩)⟩)⟩)⟩)⟩)⟩)⟩)⟩)⟩)⟩)⟩)⟩)⟩)⟩)⟩)⟩)⟩)⟩)⟩)⟩)
set_option maxRecDepth 100000 in
theorem mw_317 : (.selects RX1 yX1_numberAt yX1_numberAt : Cond) ∈ lw_tbl := List.mem_of_getElem? (i := 317) rfl
set_option maxRecDepth 100000 in
theorem mw_316 : (.instanceMethod yX1_numberAt : Cond) ∈ lw_tbl := List.mem_of_getElem? (i := 316) rfl
set_option maxRecDepth 100000 in
theorem mw_315 : (.methodLink RX5 113 yX1_numberAt : Cond) ∈ lw_tbl := List.mem_of_getElem? (i := 315) rfl
set_option maxRecDepth 100000 in
theorem inT_wsX5_value_r2 : ∀ w ∈ wsX5_value_r2, w ∈ lw_tbl := (List.forall_mem_cons.mpr ⟨mw_266, (List.forall_mem_cons.mpr ⟨mw_81, (List.forall_mem_cons.mpr ⟨mw_267, (List.forall_mem_cons.mpr ⟨mw_269, (List.forall_mem_cons.mpr ⟨mw_3, (List.forall_mem_cons.mpr ⟨mw_270, (List.forall_mem_cons.mpr ⟨mw_271, (List.forall_mem_cons.mpr ⟨mw_273, (List.forall_mem_cons.mpr ⟨mw_4, (List.forall_mem_cons.mpr ⟨mw_274, (List.forall_mem_cons.mpr ⟨mw_80, (List.forall_mem_cons.mpr ⟨mw_279, (List.forall_mem_cons.mpr ⟨mw_280, (List.forall_mem_cons.mpr ⟨mw_40, (List.forall_mem_cons.mpr ⟨mw_281, (List.forall_mem_cons.mpr ⟨mw_275, (List.forall_mem_cons.mpr ⟨mw_276, (List.forall_mem_cons.mpr ⟨mw_277, (List.forall_mem_cons.mpr ⟨mw_34, (List.forall_mem_cons.mpr ⟨mw_278, (List.forall_mem_cons.mpr ⟨mw_60, (List.forall_mem_cons.mpr ⟨mw_315, (List.forall_mem_cons.mpr ⟨mw_316, (List.forall_mem_cons.mpr ⟨mw_317, (fun _ h => absurd h List.not_mem_nil)⟩)⟩)⟩)⟩)⟩)⟩)⟩)⟩)⟩)⟩)⟩)⟩)⟩)⟩)⟩)⟩)⟩)⟩)⟩)⟩)⟩)⟩)⟩)⟩)
set_option maxRecDepth 100000 in
theorem mw_318 : (.code yX1_numberAt cX1_numberAt 5 (some .int) : Cond) ∈ lw_tbl := List.mem_of_getElem? (i := 318) rfl
set_option maxRecDepth 100000 in
theorem inT_wsX5_value_r3 : ∀ w ∈ wsX5_value_r3, w ∈ lw_tbl := (List.forall_mem_cons.mpr ⟨mw_318, (List.forall_mem_cons.mpr ⟨mw_303, (List.forall_mem_cons.mpr ⟨mw_305, (List.forall_mem_cons.mpr ⟨mw_5, (List.forall_mem_cons.mpr ⟨mw_306, (List.forall_mem_cons.mpr ⟨mw_307, (List.forall_mem_cons.mpr ⟨mw_308, (List.forall_mem_cons.mpr ⟨mw_309, (List.forall_mem_cons.mpr ⟨mw_310, (List.forall_mem_cons.mpr ⟨mw_294, (List.forall_mem_cons.mpr ⟨mw_283, (List.forall_mem_cons.mpr ⟨mw_284, (List.forall_mem_cons.mpr ⟨mw_285, (fun _ h => absurd h List.not_mem_nil)⟩)⟩)⟩)⟩)⟩)⟩)⟩)⟩)⟩)⟩)⟩)⟩)⟩)
set_option maxRecDepth 100000 in
theorem inT_wsX5_value : ∀ w ∈ wsX5_value, w ∈ lw_tbl := (List.forall_mem_cons.mpr ⟨mw_314, (List.forall_mem_append.mpr ⟨(List.forall_mem_append.mpr ⟨(List.forall_mem_append.mpr ⟨(List.forall_mem_append.mpr ⟨inT_wsX5_value_r1, (List.forall_mem_append.mpr ⟨inT_wsX5_value_r2, inT_wsX5_value_r3⟩)⟩), inT_X5⟩), inT_X1⟩), inT_X3⟩)⟩)
set_option maxRecDepth 100000 in
theorem mw_313 : (.selects RX5 yX5_value yX5_value : Cond) ∈ lw_tbl := List.mem_of_getElem? (i := 313) rfl
set_option maxRecDepth 100000 in
theorem mw_312 : (.instanceMethod yX5_value : Cond) ∈ lw_tbl := List.mem_of_getElem? (i := 312) rfl
set_option maxRecDepth 100000 in
theorem mw_311 : (.methodLink RL 49 yX5_value : Cond) ∈ lw_tbl := List.mem_of_getElem? (i := 311) rfl
set_option maxRecDepth 100000 in
theorem gT_X5_value : GoodIn lw_tbl (wsV RL 49 RX5 yX5_value wsX5_value) := goodIn_sub (List.forall_mem_append.mpr ⟨(List.forall_mem_cons.mpr ⟨mw_311, (List.forall_mem_cons.mpr ⟨mw_312, (List.forall_mem_cons.mpr ⟨mw_313, (List.forall_mem_cons.mpr ⟨mw_33, (fun _ h => absurd h List.not_mem_nil)⟩)⟩)⟩)⟩), inT_wsX5_value⟩) (by decide +kernel)
set_option maxRecDepth 100000 in
theorem mw_679 : (.code yX6_value cX6_value 5 (some .int) : Cond) ∈ lw_tbl := List.mem_of_getElem? (i := 679) rfl
set_option maxRecDepth 100000 in
theorem inT_wsX6_value_r1 : ∀ w ∈ wsX6_value_r1, w ∈ lw_tbl := (List.forall_mem_cons.mpr ⟨mw_624, (List.forall_mem_cons.mpr ⟨mw_626, (List.forall_mem_cons.mpr ⟨mw_12, (List.forall_mem_cons.mpr ⟨mw_39, (List.forall_mem_cons.mpr ⟨mw_627, (List.forall_mem_cons.mpr ⟨mw_530, (List.forall_mem_cons.mpr ⟨mw_596, (List.forall_mem_cons.mpr ⟨mw_597, (List.forall_mem_cons.mpr ⟨mw_598, (List.forall_mem_cons.mpr ⟨mw_629, (List.forall_mem_cons.mpr ⟨mw_631, (List.forall_mem_cons.mpr ⟨mw_13, (List.forall_mem_cons.mpr ⟨mw_632, (List.forall_mem_cons.mpr ⟨mw_543, (List.forall_mem_cons.mpr ⟨mw_539, (List.forall_mem_cons.mpr ⟨mw_538, (List.forall_mem_cons.mpr ⟨mw_531, (List.forall_mem_cons.mpr ⟨mw_633, (List.forall_mem_cons.mpr ⟨mw_635, (List.forall_mem_cons.mpr ⟨mw_14, (List.forall_mem_cons.mpr ⟨mw_636, (List.forall_mem_cons.mpr ⟨mw_540, (List.forall_mem_cons.mpr ⟨mw_637, (List.forall_mem_cons.mpr ⟨mw_638, (fun _ h => absurd h List.not_mem_nil)⟩)⟩)⟩)⟩)⟩)⟩)⟩)⟩)⟩)⟩)⟩)⟩)⟩)⟩)⟩)⟩)⟩)⟩)⟩)⟩)⟩)⟩)⟩)⟩)
set_option maxRecDepth 100000 in
theorem inT_wsX6_value_r2 : ∀ w ∈ wsX6_value_r2, w ∈ lw_tbl := (List.forall_mem_cons.mpr ⟨mw_639, (List.forall_mem_cons.mpr ⟨mw_640, (List.forall_mem_cons.mpr ⟨mw_642, (List.forall_mem_cons.mpr ⟨mw_15, (List.forall_mem_cons.mpr ⟨mw_643, (List.forall_mem_cons.mpr ⟨mw_541, (List.forall_mem_cons.mpr ⟨mw_542, (List.forall_mem_cons.mpr ⟨mw_644, (List.forall_mem_cons.mpr ⟨mw_646, (List.forall_mem_cons.mpr ⟨mw_16, (List.forall_mem_cons.mpr ⟨mw_647, (List.forall_mem_cons.mpr ⟨mw_648, (List.forall_mem_cons.mpr ⟨mw_650, (List.forall_mem_cons.mpr ⟨mw_17, (List.forall_mem_cons.mpr ⟨mw_651, (List.forall_mem_cons.mpr ⟨mw_532, (List.forall_mem_cons.mpr ⟨mw_652, (List.forall_mem_cons.mpr ⟨mw_654, (List.forall_mem_cons.mpr ⟨mw_18, (List.forall_mem_cons.mpr ⟨mw_655, (List.forall_mem_cons.mpr ⟨mw_533, (List.forall_mem_cons.mpr ⟨mw_668, (List.forall_mem_cons.mpr ⟨mw_670, (List.forall_mem_cons.mpr ⟨mw_20, (fun _ h => absurd h List.not_mem_nil)⟩)⟩)⟩)⟩)⟩)⟩)⟩)⟩)⟩)⟩)⟩)⟩)⟩)⟩)⟩)⟩)⟩)⟩)⟩)⟩)⟩)⟩)⟩)⟩)
set_option maxRecDepth 100000 in
theorem inT_wsX6_value_r3 : ∀ w ∈ wsX6_value_r3, w ∈ lw_tbl := (List.forall_mem_cons.mpr ⟨mw_671, (List.forall_mem_cons.mpr ⟨mw_672, (List.forall_mem_cons.mpr ⟨mw_674, (List.forall_mem_cons.mpr ⟨mw_21, (List.forall_mem_cons.mpr ⟨mw_675, (List.forall_mem_cons.mpr ⟨mw_660, (List.forall_mem_cons.mpr ⟨mw_662, (List.forall_mem_cons.mpr ⟨mw_19, (List.forall_mem_cons.mpr ⟨mw_663, (fun _ h => absurd h List.not_mem_nil)⟩)⟩)⟩)⟩)⟩)⟩)⟩)⟩)⟩)
set_option maxRecDepth 100000 in
theorem inT_wsX6_value : ∀ w ∈ wsX6_value, w ∈ lw_tbl := (List.forall_mem_cons.mpr ⟨mw_679, (List.forall_mem_append.mpr ⟨(List.forall_mem_append.mpr ⟨inT_wsX6_value_r1, (List.forall_mem_append.mpr ⟨inT_wsX6_value_r2, inT_wsX6_value_r3⟩)⟩), inT_X6⟩)⟩)
set_option maxRecDepth 100000 in
theorem mw_678 : (.selects RX6 yX6_value yX6_value : Cond) ∈ lw_tbl := List.mem_of_getElem? (i := 678) rfl
set_option maxRecDepth 100000 in
theorem mw_677 : (.instanceMethod yX6_value : Cond) ∈ lw_tbl := List.mem_of_getElem? (i := 677) rfl
set_option maxRecDepth 100000 in
theorem mw_676 : (.methodLink RL 52 yX6_value : Cond) ∈ lw_tbl := List.mem_of_getElem? (i := 676) rfl
set_option maxRecDepth 100000 in
theorem gT_X6_value : GoodIn lw_tbl (wsV RL 52 RX6 yX6_value wsX6_value) := goodIn_sub (List.forall_mem_append.mpr ⟨(List.forall_mem_cons.mpr ⟨mw_676, (List.forall_mem_cons.mpr ⟨mw_677, (List.forall_mem_cons.mpr ⟨mw_678, (List.forall_mem_cons.mpr ⟨mw_39, (fun _ h => absurd h List.not_mem_nil)⟩)⟩)⟩)⟩), inT_wsX6_value⟩) (by decide +kernel)
set_option maxRecDepth 100000 in
theorem mw_322 : (.code yX5_missing cX5_missing 1 (some .int) : Cond) ∈ lw_tbl := List.mem_of_getElem? (i := 322) rfl
set_option maxRecDepth 100000 in
theorem inT_wsX5_missing_r1 : ∀ w ∈ wsX5_missing_r1, w ∈ lw_tbl := (List.forall_mem_cons.mpr ⟨mw_170, (List.forall_mem_cons.mpr ⟨mw_254, (List.forall_mem_cons.mpr ⟨mw_255, (List.forall_mem_cons.mpr ⟨mw_256, (List.forall_mem_cons.mpr ⟨mw_35, (List.forall_mem_cons.mpr ⟨mw_257, (List.forall_mem_cons.mpr ⟨mw_88, (List.forall_mem_cons.mpr ⟨mw_84, (List.forall_mem_cons.mpr ⟨mw_258, (List.forall_mem_cons.mpr ⟨mw_260, (List.forall_mem_cons.mpr ⟨mw_1, (List.forall_mem_cons.mpr ⟨mw_261, (List.forall_mem_cons.mpr ⟨mw_83, (List.forall_mem_cons.mpr ⟨mw_82, (List.forall_mem_cons.mpr ⟨mw_85, (List.forall_mem_cons.mpr ⟨mw_262, (List.forall_mem_cons.mpr ⟨mw_250, (List.forall_mem_cons.mpr ⟨mw_251, (List.forall_mem_cons.mpr ⟨mw_252, (List.forall_mem_cons.mpr ⟨mw_86, (List.forall_mem_cons.mpr ⟨mw_263, (List.forall_mem_cons.mpr ⟨mw_265, (List.forall_mem_cons.mpr ⟨mw_2, (List.forall_mem_cons.mpr ⟨mw_266, (fun _ h => absurd h List.not_mem_nil)⟩)⟩)⟩)⟩)⟩)⟩)⟩)⟩)⟩)⟩)⟩)⟩)⟩)⟩)⟩)⟩)⟩)⟩)⟩)⟩)⟩)⟩)⟩)⟩)
set_option maxRecDepth 100000 in
theorem mw_326 : (.code yX1_leastNotReached cX1_leastNotReached 2 (some .int) : Cond) ∈ lw_tbl := List.mem_of_getElem? (i := 326) rfl
set_option maxRecDepth 100000 in
theorem mw_325 : (.selects RX1 yX1_leastNotReached yX1_leastNotReached : Cond) ∈ lw_tbl := List.mem_of_getElem? (i := 325) rfl
set_option maxRecDepth 100000 in
theorem mw_324 : (.instanceMethod yX1_leastNotReached : Cond) ∈ lw_tbl := List.mem_of_getElem? (i := 324) rfl
set_option maxRecDepth 100000 in
theorem mw_323 : (.methodLink RX5 117 yX1_leastNotReached : Cond) ∈ lw_tbl := List.mem_of_getElem? (i := 323) rfl
set_option maxRecDepth 100000 in
theorem inT_wsX5_missing_r2 : ∀ w ∈ wsX5_missing_r2, w ∈ lw_tbl := (List.forall_mem_cons.mpr ⟨mw_81, (List.forall_mem_cons.mpr ⟨mw_267, (List.forall_mem_cons.mpr ⟨mw_269, (List.forall_mem_cons.mpr ⟨mw_3, (List.forall_mem_cons.mpr ⟨mw_270, (List.forall_mem_cons.mpr ⟨mw_271, (List.forall_mem_cons.mpr ⟨mw_273, (List.forall_mem_cons.mpr ⟨mw_4, (List.forall_mem_cons.mpr ⟨mw_274, (List.forall_mem_cons.mpr ⟨mw_80, (List.forall_mem_cons.mpr ⟨mw_279, (List.forall_mem_cons.mpr ⟨mw_280, (List.forall_mem_cons.mpr ⟨mw_40, (List.forall_mem_cons.mpr ⟨mw_281, (List.forall_mem_cons.mpr ⟨mw_275, (List.forall_mem_cons.mpr ⟨mw_276, (List.forall_mem_cons.mpr ⟨mw_277, (List.forall_mem_cons.mpr ⟨mw_34, (List.forall_mem_cons.mpr ⟨mw_278, (List.forall_mem_cons.mpr ⟨mw_60, (List.forall_mem_cons.mpr ⟨mw_323, (List.forall_mem_cons.mpr ⟨mw_324, (List.forall_mem_cons.mpr ⟨mw_325, (List.forall_mem_cons.mpr ⟨mw_326, (fun _ h => absurd h List.not_mem_nil)⟩)⟩)⟩)⟩)⟩)⟩)⟩)⟩)⟩)⟩)⟩)⟩)⟩)⟩)⟩)⟩)⟩)⟩)⟩)⟩)⟩)⟩)⟩)⟩)
set_option maxRecDepth 100000 in
theorem inT_wsX5_missing_r3 : ∀ w ∈ wsX5_missing_r3, w ∈ lw_tbl := (List.forall_mem_cons.mpr ⟨mw_307, (List.forall_mem_cons.mpr ⟨mw_308, (List.forall_mem_cons.mpr ⟨mw_309, (List.forall_mem_cons.mpr ⟨mw_310, (fun _ h => absurd h List.not_mem_nil)⟩)⟩)⟩)⟩)
set_option maxRecDepth 100000 in
theorem inT_wsX5_missing : ∀ w ∈ wsX5_missing, w ∈ lw_tbl := (List.forall_mem_cons.mpr ⟨mw_322, (List.forall_mem_append.mpr ⟨(List.forall_mem_append.mpr ⟨(List.forall_mem_append.mpr ⟨(List.forall_mem_append.mpr ⟨inT_wsX5_missing_r1, (List.forall_mem_append.mpr ⟨inT_wsX5_missing_r2, inT_wsX5_missing_r3⟩)⟩), inT_X5⟩), inT_X1⟩), inT_X3⟩)⟩)
set_option maxRecDepth 100000 in
theorem mw_321 : (.selects RX5 yX5_missing yX5_missing : Cond) ∈ lw_tbl := List.mem_of_getElem? (i := 321) rfl
set_option maxRecDepth 100000 in
theorem mw_320 : (.instanceMethod yX5_missing : Cond) ∈ lw_tbl := List.mem_of_getElem? (i := 320) rfl
set_option maxRecDepth 100000 in
theorem mw_319 : (.methodLink RL 53 yX5_missing : Cond) ∈ lw_tbl := List.mem_of_getElem? (i := 319) rfl
set_option maxRecDepth 100000 in
theorem gT_X5_missing : GoodIn lw_tbl (wsV RL 53 RX5 yX5_missing wsX5_missing) := goodIn_sub (List.forall_mem_append.mpr ⟨(List.forall_mem_cons.mpr ⟨mw_319, (List.forall_mem_cons.mpr ⟨mw_320, (List.forall_mem_cons.mpr ⟨mw_321, (List.forall_mem_cons.mpr ⟨mw_33, (fun _ h => absurd h List.not_mem_nil)⟩)⟩)⟩)⟩), inT_wsX5_missing⟩) (by decide +kernel)
set_option maxRecDepth 100000 in
theorem mw_683 : (.code yX6_missing cX6_missing 2 (some .int) : Cond) ∈ lw_tbl := List.mem_of_getElem? (i := 683) rfl
set_option maxRecDepth 100000 in
theorem inT_wsX6_missing_r1 : ∀ w ∈ wsX6_missing_r1, w ∈ lw_tbl := (List.forall_mem_cons.mpr ⟨mw_629, (List.forall_mem_cons.mpr ⟨mw_631, (List.forall_mem_cons.mpr ⟨mw_13, (List.forall_mem_cons.mpr ⟨mw_39, (List.forall_mem_cons.mpr ⟨mw_632, (List.forall_mem_cons.mpr ⟨mw_543, (List.forall_mem_cons.mpr ⟨mw_530, (List.forall_mem_cons.mpr ⟨mw_539, (List.forall_mem_cons.mpr ⟨mw_538, (List.forall_mem_cons.mpr ⟨mw_531, (List.forall_mem_cons.mpr ⟨mw_633, (List.forall_mem_cons.mpr ⟨mw_635, (List.forall_mem_cons.mpr ⟨mw_14, (List.forall_mem_cons.mpr ⟨mw_636, (List.forall_mem_cons.mpr ⟨mw_540, (List.forall_mem_cons.mpr ⟨mw_637, (List.forall_mem_cons.mpr ⟨mw_638, (List.forall_mem_cons.mpr ⟨mw_639, (List.forall_mem_cons.mpr ⟨mw_640, (List.forall_mem_cons.mpr ⟨mw_642, (List.forall_mem_cons.mpr ⟨mw_15, (List.forall_mem_cons.mpr ⟨mw_643, (List.forall_mem_cons.mpr ⟨mw_541, (List.forall_mem_cons.mpr ⟨mw_542, (fun _ h => absurd h List.not_mem_nil)⟩)⟩)⟩)⟩)⟩)⟩)⟩)⟩)⟩)⟩)⟩)⟩)⟩)⟩)⟩)⟩)⟩)⟩)⟩)⟩)⟩)⟩)⟩)⟩)
set_option maxRecDepth 100000 in
theorem inT_wsX6_missing_r2 : ∀ w ∈ wsX6_missing_r2, w ∈ lw_tbl := (List.forall_mem_cons.mpr ⟨mw_644, (List.forall_mem_cons.mpr ⟨mw_646, (List.forall_mem_cons.mpr ⟨mw_16, (List.forall_mem_cons.mpr ⟨mw_647, (List.forall_mem_cons.mpr ⟨mw_648, (List.forall_mem_cons.mpr ⟨mw_650, (List.forall_mem_cons.mpr ⟨mw_17, (List.forall_mem_cons.mpr ⟨mw_651, (List.forall_mem_cons.mpr ⟨mw_532, (List.forall_mem_cons.mpr ⟨mw_652, (List.forall_mem_cons.mpr ⟨mw_654, (List.forall_mem_cons.mpr ⟨mw_18, (List.forall_mem_cons.mpr ⟨mw_655, (List.forall_mem_cons.mpr ⟨mw_533, (List.forall_mem_cons.mpr ⟨mw_672, (List.forall_mem_cons.mpr ⟨mw_674, (List.forall_mem_cons.mpr ⟨mw_21, (List.forall_mem_cons.mpr ⟨mw_675, (List.forall_mem_cons.mpr ⟨mw_660, (List.forall_mem_cons.mpr ⟨mw_662, (List.forall_mem_cons.mpr ⟨mw_19, (List.forall_mem_cons.mpr ⟨mw_663, (fun _ h => absurd h List.not_mem_nil)⟩)⟩)⟩)⟩)⟩)⟩)⟩)⟩)⟩)⟩)⟩)⟩)⟩)⟩)⟩)⟩)⟩)⟩)⟩)⟩)⟩)⟩)
set_option maxRecDepth 100000 in
theorem inT_wsX6_missing : ∀ w ∈ wsX6_missing, w ∈ lw_tbl := (List.forall_mem_cons.mpr ⟨mw_683, (List.forall_mem_append.mpr ⟨(List.forall_mem_append.mpr ⟨inT_wsX6_missing_r1, inT_wsX6_missing_r2⟩), inT_X6⟩)⟩)
set_option maxRecDepth 100000 in
theorem mw_682 : (.selects RX6 yX6_missing yX6_missing : Cond) ∈ lw_tbl := List.mem_of_getElem? (i := 682) rfl
set_option maxRecDepth 100000 in
theorem mw_681 : (.instanceMethod yX6_missing : Cond) ∈ lw_tbl := List.mem_of_getElem? (i := 681) rfl
set_option maxRecDepth 100000 in
theorem mw_680 : (.methodLink RL 57 yX6_missing : Cond) ∈ lw_tbl := List.mem_of_getElem? (i := 680) rfl
set_option maxRecDepth 100000 in
theorem gT_X6_missing : GoodIn lw_tbl (wsV RL 57 RX6 yX6_missing wsX6_missing) := goodIn_sub (List.forall_mem_append.mpr ⟨(List.forall_mem_cons.mpr ⟨mw_680, (List.forall_mem_cons.mpr ⟨mw_681, (List.forall_mem_cons.mpr ⟨mw_682, (List.forall_mem_cons.mpr ⟨mw_39, (fun _ h => absurd h List.not_mem_nil)⟩)⟩)⟩)⟩), inT_wsX6_missing⟩) (by decide +kernel)
set_option maxRecDepth 100000 in
theorem mw_330 : (.code yX5_aim cX5_aim 3 (some .int) : Cond) ∈ lw_tbl := List.mem_of_getElem? (i := 330) rfl
set_option maxRecDepth 100000 in
theorem inT_wsX5_aim_r1 : ∀ w ∈ wsX5_aim_r1, w ∈ lw_tbl := (List.forall_mem_cons.mpr ⟨mw_170, (List.forall_mem_cons.mpr ⟨mw_192, (List.forall_mem_cons.mpr ⟨mw_193, (List.forall_mem_cons.mpr ⟨mw_33, (List.forall_mem_cons.mpr ⟨mw_194, (List.forall_mem_cons.mpr ⟨mw_254, (List.forall_mem_cons.mpr ⟨mw_255, (List.forall_mem_cons.mpr ⟨mw_256, (List.forall_mem_cons.mpr ⟨mw_35, (List.forall_mem_cons.mpr ⟨mw_257, (List.forall_mem_cons.mpr ⟨mw_88, (List.forall_mem_cons.mpr ⟨mw_84, (List.forall_mem_cons.mpr ⟨mw_258, (List.forall_mem_cons.mpr ⟨mw_260, (List.forall_mem_cons.mpr ⟨mw_1, (List.forall_mem_cons.mpr ⟨mw_261, (List.forall_mem_cons.mpr ⟨mw_83, (List.forall_mem_cons.mpr ⟨mw_82, (List.forall_mem_cons.mpr ⟨mw_85, (List.forall_mem_cons.mpr ⟨mw_262, (List.forall_mem_cons.mpr ⟨mw_250, (List.forall_mem_cons.mpr ⟨mw_251, (List.forall_mem_cons.mpr ⟨mw_252, (List.forall_mem_cons.mpr ⟨mw_86, (fun _ h => absurd h List.not_mem_nil)⟩)⟩)⟩)⟩)⟩)⟩)⟩)⟩)⟩)⟩)⟩)⟩)⟩)⟩)⟩)⟩)⟩)⟩)⟩)⟩)⟩)⟩)⟩)⟩)
set_option maxRecDepth 100000 in
theorem inT_wsX5_aim_r2 : ∀ w ∈ wsX5_aim_r2, w ∈ lw_tbl := (List.forall_mem_cons.mpr ⟨mw_263, (List.forall_mem_cons.mpr ⟨mw_265, (List.forall_mem_cons.mpr ⟨mw_2, (List.forall_mem_cons.mpr ⟨mw_266, (List.forall_mem_cons.mpr ⟨mw_81, (List.forall_mem_cons.mpr ⟨mw_267, (List.forall_mem_cons.mpr ⟨mw_269, (List.forall_mem_cons.mpr ⟨mw_3, (List.forall_mem_cons.mpr ⟨mw_270, (List.forall_mem_cons.mpr ⟨mw_271, (List.forall_mem_cons.mpr ⟨mw_273, (List.forall_mem_cons.mpr ⟨mw_4, (List.forall_mem_cons.mpr ⟨mw_274, (List.forall_mem_cons.mpr ⟨mw_80, (List.forall_mem_cons.mpr ⟨mw_279, (List.forall_mem_cons.mpr ⟨mw_280, (List.forall_mem_cons.mpr ⟨mw_40, (List.forall_mem_cons.mpr ⟨mw_281, (List.forall_mem_cons.mpr ⟨mw_275, (List.forall_mem_cons.mpr ⟨mw_276, (List.forall_mem_cons.mpr ⟨mw_277, (List.forall_mem_cons.mpr ⟨mw_34, (List.forall_mem_cons.mpr ⟨mw_278, (List.forall_mem_cons.mpr ⟨mw_60, (fun _ h => absurd h List.not_mem_nil)⟩)⟩)⟩)⟩)⟩)⟩)⟩)⟩)⟩)⟩)⟩)⟩)⟩)⟩)⟩)⟩)⟩)⟩)⟩)⟩)⟩)⟩)⟩)⟩)
set_option maxRecDepth 100000 in
theorem mw_346 : (.code yX1_nearest cX1_nearest 3 (some .int) : Cond) ∈ lw_tbl := List.mem_of_getElem? (i := 346) rfl
set_option maxRecDepth 100000 in
theorem mw_345 : (.selects RX1 yX1_nearest yX1_nearest : Cond) ∈ lw_tbl := List.mem_of_getElem? (i := 345) rfl
set_option maxRecDepth 100000 in
theorem mw_344 : (.instanceMethod yX1_nearest : Cond) ∈ lw_tbl := List.mem_of_getElem? (i := 344) rfl
set_option maxRecDepth 100000 in
theorem mw_343 : (.methodLink RX5 132 yX1_nearest : Cond) ∈ lw_tbl := List.mem_of_getElem? (i := 343) rfl
set_option maxRecDepth 100000 in
theorem mw_342 : (.methodLink RX5 127 yJ6_bitCount_0f7a4 : Cond) ∈ lw_tbl := List.mem_of_getElem? (i := 342) rfl
set_option maxRecDepth 100000 in
theorem mw_341 : (.constant RJ6 267 (252645135) : Cond) ∈ lw_tbl := List.mem_of_getElem? (i := 341) rfl
set_option maxRecDepth 100000 in
theorem mw_340 : (.constant RJ6 266 (858993459) : Cond) ∈ lw_tbl := List.mem_of_getElem? (i := 340) rfl
set_option maxRecDepth 100000 in
theorem mw_339 : (.constant RJ6 265 (1431655765) : Cond) ∈ lw_tbl := List.mem_of_getElem? (i := 339) rfl
set_option maxRecDepth 100000 in
theorem mw_338 : (.code yJ6_bitCount_0f7a4 cJ6_bitCount_0f7a4 1 (some .int) : Cond) ∈ lw_tbl := List.mem_of_getElem? (i := 338) rfl
set_option maxRecDepth 100000 in
theorem mw_41 : (.initialized RJ6 : Cond) ∈ lw_tbl := List.mem_of_getElem? (i := 41) rfl
set_option maxRecDepth 100000 in
theorem mw_337 : (.static yJ6_bitCount_0f7a4 : Cond) ∈ lw_tbl := List.mem_of_getElem? (i := 337) rfl
set_option maxRecDepth 100000 in
theorem mw_336 : (.methodLink RX1 93 yJ6_bitCount_0f7a4 : Cond) ∈ lw_tbl := List.mem_of_getElem? (i := 336) rfl
set_option maxRecDepth 100000 in
theorem mw_335 : (.code yX1_firstSet cX1_firstSet 5 (some .int) : Cond) ∈ lw_tbl := List.mem_of_getElem? (i := 335) rfl
set_option maxRecDepth 100000 in
theorem mw_334 : (.selects RX1 yX1_firstSet yX1_firstSet : Cond) ∈ lw_tbl := List.mem_of_getElem? (i := 334) rfl
set_option maxRecDepth 100000 in
theorem mw_333 : (.instanceMethod yX1_firstSet : Cond) ∈ lw_tbl := List.mem_of_getElem? (i := 333) rfl
set_option maxRecDepth 100000 in
theorem mw_332 : (.methodLink RX5 124 yX1_firstSet : Cond) ∈ lw_tbl := List.mem_of_getElem? (i := 332) rfl
set_option maxRecDepth 100000 in
theorem mw_331 : (.methodLink RX5 121 yX1_reaches : Cond) ∈ lw_tbl := List.mem_of_getElem? (i := 331) rfl
set_option maxRecDepth 100000 in
theorem inT_wsX5_aim_r3 : ∀ w ∈ wsX5_aim_r3, w ∈ lw_tbl := (List.forall_mem_cons.mpr ⟨mw_331, (List.forall_mem_cons.mpr ⟨mw_308, (List.forall_mem_cons.mpr ⟨mw_309, (List.forall_mem_cons.mpr ⟨mw_310, (List.forall_mem_cons.mpr ⟨mw_332, (List.forall_mem_cons.mpr ⟨mw_333, (List.forall_mem_cons.mpr ⟨mw_334, (List.forall_mem_cons.mpr ⟨mw_335, (List.forall_mem_cons.mpr ⟨mw_294, (List.forall_mem_cons.mpr ⟨mw_283, (List.forall_mem_cons.mpr ⟨mw_284, (List.forall_mem_cons.mpr ⟨mw_285, (List.forall_mem_cons.mpr ⟨mw_336, (List.forall_mem_cons.mpr ⟨mw_337, (List.forall_mem_cons.mpr ⟨mw_41, (List.forall_mem_cons.mpr ⟨mw_338, (List.forall_mem_cons.mpr ⟨mw_339, (List.forall_mem_cons.mpr ⟨mw_340, (List.forall_mem_cons.mpr ⟨mw_341, (List.forall_mem_cons.mpr ⟨mw_342, (List.forall_mem_cons.mpr ⟨mw_343, (List.forall_mem_cons.mpr ⟨mw_344, (List.forall_mem_cons.mpr ⟨mw_345, (List.forall_mem_cons.mpr ⟨mw_346, (fun _ h => absurd h List.not_mem_nil)⟩)⟩)⟩)⟩)⟩)⟩)⟩)⟩)⟩)⟩)⟩)⟩)⟩)⟩)⟩)⟩)⟩)⟩)⟩)⟩)⟩)⟩)⟩)⟩)
set_option maxRecDepth 100000 in
theorem inT_wsX5_aim_r4 : ∀ w ∈ wsX5_aim_r4, w ∈ lw_tbl := (List.forall_mem_cons.mpr ⟨mw_307, (fun _ h => absurd h List.not_mem_nil)⟩)
set_option maxRecDepth 100000 in
theorem inT_wsX5_aim : ∀ w ∈ wsX5_aim, w ∈ lw_tbl := (List.forall_mem_cons.mpr ⟨mw_330, (List.forall_mem_append.mpr ⟨(List.forall_mem_append.mpr ⟨(List.forall_mem_append.mpr ⟨(List.forall_mem_append.mpr ⟨inT_wsX5_aim_r1, (List.forall_mem_append.mpr ⟨inT_wsX5_aim_r2, (List.forall_mem_append.mpr ⟨inT_wsX5_aim_r3, inT_wsX5_aim_r4⟩)⟩)⟩), inT_X5⟩), inT_X1⟩), inT_X3⟩)⟩)
set_option maxRecDepth 100000 in
theorem mw_329 : (.selects RX5 yX5_aim yX5_aim : Cond) ∈ lw_tbl := List.mem_of_getElem? (i := 329) rfl
set_option maxRecDepth 100000 in
theorem mw_328 : (.instanceMethod yX5_aim : Cond) ∈ lw_tbl := List.mem_of_getElem? (i := 328) rfl
set_option maxRecDepth 100000 in
theorem mw_327 : (.methodLink RL 58 yX5_aim : Cond) ∈ lw_tbl := List.mem_of_getElem? (i := 327) rfl
set_option maxRecDepth 100000 in
theorem gT_X5_aim : GoodIn lw_tbl (wsV RL 58 RX5 yX5_aim wsX5_aim) := goodIn_sub (List.forall_mem_append.mpr ⟨(List.forall_mem_cons.mpr ⟨mw_327, (List.forall_mem_cons.mpr ⟨mw_328, (List.forall_mem_cons.mpr ⟨mw_329, (List.forall_mem_cons.mpr ⟨mw_33, (fun _ h => absurd h List.not_mem_nil)⟩)⟩)⟩)⟩), inT_wsX5_aim⟩) (by decide +kernel)
set_option maxRecDepth 100000 in
theorem mw_687 : (.code yX6_aim cX6_aim 4 (some .int) : Cond) ∈ lw_tbl := List.mem_of_getElem? (i := 687) rfl
set_option maxRecDepth 100000 in
theorem mw_688 : (.constantLong RX6 129 (3) : Cond) ∈ lw_tbl := List.mem_of_getElem? (i := 688) rfl
set_option maxRecDepth 100000 in
theorem inT_wsX6_aim_r1 : ∀ w ∈ wsX6_aim_r1, w ∈ lw_tbl := (List.forall_mem_cons.mpr ⟨mw_612, (List.forall_mem_cons.mpr ⟨mw_688, (List.forall_mem_cons.mpr ⟨mw_596, (List.forall_mem_cons.mpr ⟨mw_597, (List.forall_mem_cons.mpr ⟨mw_39, (List.forall_mem_cons.mpr ⟨mw_598, (List.forall_mem_cons.mpr ⟨mw_629, (List.forall_mem_cons.mpr ⟨mw_631, (List.forall_mem_cons.mpr ⟨mw_13, (List.forall_mem_cons.mpr ⟨mw_632, (List.forall_mem_cons.mpr ⟨mw_543, (List.forall_mem_cons.mpr ⟨mw_530, (List.forall_mem_cons.mpr ⟨mw_539, (List.forall_mem_cons.mpr ⟨mw_538, (List.forall_mem_cons.mpr ⟨mw_531, (List.forall_mem_cons.mpr ⟨mw_633, (List.forall_mem_cons.mpr ⟨mw_635, (List.forall_mem_cons.mpr ⟨mw_14, (List.forall_mem_cons.mpr ⟨mw_636, (List.forall_mem_cons.mpr ⟨mw_540, (List.forall_mem_cons.mpr ⟨mw_637, (List.forall_mem_cons.mpr ⟨mw_638, (List.forall_mem_cons.mpr ⟨mw_639, (List.forall_mem_cons.mpr ⟨mw_640, (fun _ h => absurd h List.not_mem_nil)⟩)⟩)⟩)⟩)⟩)⟩)⟩)⟩)⟩)⟩)⟩)⟩)⟩)⟩)⟩)⟩)⟩)⟩)⟩)⟩)⟩)⟩)⟩)⟩)
set_option maxRecDepth 100000 in
theorem mw_693 : (.methodLink RX6 134 yX6_nearest : Cond) ∈ lw_tbl := List.mem_of_getElem? (i := 693) rfl
set_option maxRecDepth 100000 in
theorem mw_692 : (.code yX6_firstSet cX6_firstSet 4 (some .int) : Cond) ∈ lw_tbl := List.mem_of_getElem? (i := 692) rfl
set_option maxRecDepth 100000 in
theorem mw_22 : (.selects RX6 yX6_firstSet yX6_firstSet : Cond) ∈ lw_tbl := List.mem_of_getElem? (i := 22) rfl
set_option maxRecDepth 100000 in
theorem mw_691 : (.instanceMethod yX6_firstSet : Cond) ∈ lw_tbl := List.mem_of_getElem? (i := 691) rfl
set_option maxRecDepth 100000 in
theorem mw_689 : (.methodLink RX6 131 yX6_firstSet : Cond) ∈ lw_tbl := List.mem_of_getElem? (i := 689) rfl
set_option maxRecDepth 100000 in
theorem inT_wsX6_aim_r2 : ∀ w ∈ wsX6_aim_r2, w ∈ lw_tbl := (List.forall_mem_cons.mpr ⟨mw_642, (List.forall_mem_cons.mpr ⟨mw_15, (List.forall_mem_cons.mpr ⟨mw_643, (List.forall_mem_cons.mpr ⟨mw_541, (List.forall_mem_cons.mpr ⟨mw_542, (List.forall_mem_cons.mpr ⟨mw_644, (List.forall_mem_cons.mpr ⟨mw_646, (List.forall_mem_cons.mpr ⟨mw_16, (List.forall_mem_cons.mpr ⟨mw_647, (List.forall_mem_cons.mpr ⟨mw_648, (List.forall_mem_cons.mpr ⟨mw_650, (List.forall_mem_cons.mpr ⟨mw_17, (List.forall_mem_cons.mpr ⟨mw_651, (List.forall_mem_cons.mpr ⟨mw_532, (List.forall_mem_cons.mpr ⟨mw_652, (List.forall_mem_cons.mpr ⟨mw_654, (List.forall_mem_cons.mpr ⟨mw_18, (List.forall_mem_cons.mpr ⟨mw_655, (List.forall_mem_cons.mpr ⟨mw_533, (List.forall_mem_cons.mpr ⟨mw_689, (List.forall_mem_cons.mpr ⟨mw_691, (List.forall_mem_cons.mpr ⟨mw_22, (List.forall_mem_cons.mpr ⟨mw_692, (List.forall_mem_cons.mpr ⟨mw_693, (fun _ h => absurd h List.not_mem_nil)⟩)⟩)⟩)⟩)⟩)⟩)⟩)⟩)⟩)⟩)⟩)⟩)⟩)⟩)⟩)⟩)⟩)⟩)⟩)⟩)⟩)⟩)⟩)⟩)
set_option maxRecDepth 100000 in
theorem mw_696 : (.code yX6_nearest cX6_nearest 6 (some .int) : Cond) ∈ lw_tbl := List.mem_of_getElem? (i := 696) rfl
set_option maxRecDepth 100000 in
theorem mw_23 : (.selects RX6 yX6_nearest yX6_nearest : Cond) ∈ lw_tbl := List.mem_of_getElem? (i := 23) rfl
set_option maxRecDepth 100000 in
theorem mw_695 : (.instanceMethod yX6_nearest : Cond) ∈ lw_tbl := List.mem_of_getElem? (i := 695) rfl
set_option maxRecDepth 100000 in
theorem inT_wsX6_aim_r3 : ∀ w ∈ wsX6_aim_r3, w ∈ lw_tbl := (List.forall_mem_cons.mpr ⟨mw_695, (List.forall_mem_cons.mpr ⟨mw_23, (List.forall_mem_cons.mpr ⟨mw_696, (List.forall_mem_cons.mpr ⟨mw_672, (List.forall_mem_cons.mpr ⟨mw_674, (List.forall_mem_cons.mpr ⟨mw_21, (List.forall_mem_cons.mpr ⟨mw_675, (List.forall_mem_cons.mpr ⟨mw_660, (List.forall_mem_cons.mpr ⟨mw_662, (List.forall_mem_cons.mpr ⟨mw_19, (List.forall_mem_cons.mpr ⟨mw_663, (fun _ h => absurd h List.not_mem_nil)⟩)⟩)⟩)⟩)⟩)⟩)⟩)⟩)⟩)⟩)⟩)
set_option maxRecDepth 100000 in
theorem inT_wsX6_aim : ∀ w ∈ wsX6_aim, w ∈ lw_tbl := (List.forall_mem_cons.mpr ⟨mw_687, (List.forall_mem_append.mpr ⟨(List.forall_mem_append.mpr ⟨inT_wsX6_aim_r1, (List.forall_mem_append.mpr ⟨inT_wsX6_aim_r2, inT_wsX6_aim_r3⟩)⟩), inT_X6⟩)⟩)
set_option maxRecDepth 100000 in
theorem mw_686 : (.selects RX6 yX6_aim yX6_aim : Cond) ∈ lw_tbl := List.mem_of_getElem? (i := 686) rfl
set_option maxRecDepth 100000 in
theorem mw_685 : (.instanceMethod yX6_aim : Cond) ∈ lw_tbl := List.mem_of_getElem? (i := 685) rfl
set_option maxRecDepth 100000 in
theorem mw_684 : (.methodLink RL 61 yX6_aim : Cond) ∈ lw_tbl := List.mem_of_getElem? (i := 684) rfl
set_option maxRecDepth 100000 in
theorem gT_X6_aim : GoodIn lw_tbl (wsV RL 61 RX6 yX6_aim wsX6_aim) := goodIn_sub (List.forall_mem_append.mpr ⟨(List.forall_mem_cons.mpr ⟨mw_684, (List.forall_mem_cons.mpr ⟨mw_685, (List.forall_mem_cons.mpr ⟨mw_686, (List.forall_mem_cons.mpr ⟨mw_39, (fun _ h => absurd h List.not_mem_nil)⟩)⟩)⟩)⟩), inT_wsX6_aim⟩) (by decide +kernel)
set_option maxRecDepth 100000 in
theorem mw_350 : (.code yX5_print cX5_print 2 (some .int) : Cond) ∈ lw_tbl := List.mem_of_getElem? (i := 350) rfl
set_option maxRecDepth 100000 in
theorem inT_wsX5_print_r1 : ∀ w ∈ wsX5_print_r1, w ∈ lw_tbl := (List.forall_mem_cons.mpr ⟨mw_170, (List.forall_mem_cons.mpr ⟨mw_192, (List.forall_mem_cons.mpr ⟨mw_193, (List.forall_mem_cons.mpr ⟨mw_33, (List.forall_mem_cons.mpr ⟨mw_194, (List.forall_mem_cons.mpr ⟨mw_254, (List.forall_mem_cons.mpr ⟨mw_255, (List.forall_mem_cons.mpr ⟨mw_256, (List.forall_mem_cons.mpr ⟨mw_35, (List.forall_mem_cons.mpr ⟨mw_257, (List.forall_mem_cons.mpr ⟨mw_88, (List.forall_mem_cons.mpr ⟨mw_84, (List.forall_mem_cons.mpr ⟨mw_258, (List.forall_mem_cons.mpr ⟨mw_260, (List.forall_mem_cons.mpr ⟨mw_1, (List.forall_mem_cons.mpr ⟨mw_261, (List.forall_mem_cons.mpr ⟨mw_83, (List.forall_mem_cons.mpr ⟨mw_82, (List.forall_mem_cons.mpr ⟨mw_85, (List.forall_mem_cons.mpr ⟨mw_262, (List.forall_mem_cons.mpr ⟨mw_250, (List.forall_mem_cons.mpr ⟨mw_251, (List.forall_mem_cons.mpr ⟨mw_252, (List.forall_mem_cons.mpr ⟨mw_86, (fun _ h => absurd h List.not_mem_nil)⟩)⟩)⟩)⟩)⟩)⟩)⟩)⟩)⟩)⟩)⟩)⟩)⟩)⟩)⟩)⟩)⟩)⟩)⟩)⟩)⟩)⟩)⟩)⟩)
set_option maxRecDepth 100000 in
theorem inT_wsX5_print_r2 : ∀ w ∈ wsX5_print_r2, w ∈ lw_tbl := (List.forall_mem_cons.mpr ⟨mw_263, (List.forall_mem_cons.mpr ⟨mw_265, (List.forall_mem_cons.mpr ⟨mw_2, (List.forall_mem_cons.mpr ⟨mw_266, (List.forall_mem_cons.mpr ⟨mw_81, (List.forall_mem_cons.mpr ⟨mw_267, (List.forall_mem_cons.mpr ⟨mw_269, (List.forall_mem_cons.mpr ⟨mw_3, (List.forall_mem_cons.mpr ⟨mw_270, (List.forall_mem_cons.mpr ⟨mw_271, (List.forall_mem_cons.mpr ⟨mw_273, (List.forall_mem_cons.mpr ⟨mw_4, (List.forall_mem_cons.mpr ⟨mw_274, (List.forall_mem_cons.mpr ⟨mw_80, (List.forall_mem_cons.mpr ⟨mw_279, (List.forall_mem_cons.mpr ⟨mw_280, (List.forall_mem_cons.mpr ⟨mw_40, (List.forall_mem_cons.mpr ⟨mw_281, (List.forall_mem_cons.mpr ⟨mw_275, (List.forall_mem_cons.mpr ⟨mw_276, (List.forall_mem_cons.mpr ⟨mw_277, (List.forall_mem_cons.mpr ⟨mw_34, (List.forall_mem_cons.mpr ⟨mw_278, (List.forall_mem_cons.mpr ⟨mw_60, (fun _ h => absurd h List.not_mem_nil)⟩)⟩)⟩)⟩)⟩)⟩)⟩)⟩)⟩)⟩)⟩)⟩)⟩)⟩)⟩)⟩)⟩)⟩)⟩)⟩)⟩)⟩)⟩)⟩)
set_option maxRecDepth 100000 in
theorem mw_354 : (.code yX5_printWay cX5_printWay 3 (some .int) : Cond) ∈ lw_tbl := List.mem_of_getElem? (i := 354) rfl
set_option maxRecDepth 100000 in
theorem mw_6 : (.selects RX5 yX5_printWay yX5_printWay : Cond) ∈ lw_tbl := List.mem_of_getElem? (i := 6) rfl
set_option maxRecDepth 100000 in
theorem mw_353 : (.instanceMethod yX5_printWay : Cond) ∈ lw_tbl := List.mem_of_getElem? (i := 353) rfl
set_option maxRecDepth 100000 in
theorem mw_351 : (.methodLink RX5 135 yX5_printWay : Cond) ∈ lw_tbl := List.mem_of_getElem? (i := 351) rfl
set_option maxRecDepth 100000 in
theorem inT_wsX5_print_r3 : ∀ w ∈ wsX5_print_r3, w ∈ lw_tbl := (List.forall_mem_cons.mpr ⟨mw_331, (List.forall_mem_cons.mpr ⟨mw_308, (List.forall_mem_cons.mpr ⟨mw_309, (List.forall_mem_cons.mpr ⟨mw_310, (List.forall_mem_cons.mpr ⟨mw_332, (List.forall_mem_cons.mpr ⟨mw_333, (List.forall_mem_cons.mpr ⟨mw_334, (List.forall_mem_cons.mpr ⟨mw_335, (List.forall_mem_cons.mpr ⟨mw_294, (List.forall_mem_cons.mpr ⟨mw_283, (List.forall_mem_cons.mpr ⟨mw_284, (List.forall_mem_cons.mpr ⟨mw_285, (List.forall_mem_cons.mpr ⟨mw_336, (List.forall_mem_cons.mpr ⟨mw_337, (List.forall_mem_cons.mpr ⟨mw_41, (List.forall_mem_cons.mpr ⟨mw_338, (List.forall_mem_cons.mpr ⟨mw_339, (List.forall_mem_cons.mpr ⟨mw_340, (List.forall_mem_cons.mpr ⟨mw_341, (List.forall_mem_cons.mpr ⟨mw_351, (List.forall_mem_cons.mpr ⟨mw_353, (List.forall_mem_cons.mpr ⟨mw_6, (List.forall_mem_cons.mpr ⟨mw_354, (List.forall_mem_cons.mpr ⟨mw_173, (fun _ h => absurd h List.not_mem_nil)⟩)⟩)⟩)⟩)⟩)⟩)⟩)⟩)⟩)⟩)⟩)⟩)⟩)⟩)⟩)⟩)⟩)⟩)⟩)⟩)⟩)⟩)⟩)⟩)
set_option maxRecDepth 100000 in
theorem mw_376 : (.instanceMethod yJ0_charAt_5068e : Cond) ∈ lw_tbl := List.mem_of_getElem? (i := 376) rfl
set_option maxRecDepth 100000 in
theorem mw_375 : (.methodLink RX5 185 yJ0_charAt_5068e : Cond) ∈ lw_tbl := List.mem_of_getElem? (i := 375) rfl
set_option maxRecDepth 100000 in
theorem mw_373 : (.methodLink RX5 179 yX2_add : Cond) ∈ lw_tbl := List.mem_of_getElem? (i := 373) rfl
set_option maxRecDepth 100000 in
theorem mw_372 : (.code yX5_rightNumber cX5_rightNumber 3 (some .int) : Cond) ∈ lw_tbl := List.mem_of_getElem? (i := 372) rfl
set_option maxRecDepth 100000 in
theorem mw_371 : (.static yX5_rightNumber : Cond) ∈ lw_tbl := List.mem_of_getElem? (i := 371) rfl
set_option maxRecDepth 100000 in
theorem mw_369 : (.code yX1_leastLeftNumber cX1_leastLeftNumber 11 (some .int) : Cond) ∈ lw_tbl := List.mem_of_getElem? (i := 369) rfl
set_option maxRecDepth 100000 in
theorem mw_368 : (.selects RX1 yX1_leastLeftNumber yX1_leastLeftNumber : Cond) ∈ lw_tbl := List.mem_of_getElem? (i := 368) rfl
set_option maxRecDepth 100000 in
theorem mw_367 : (.instanceMethod yX1_leastLeftNumber : Cond) ∈ lw_tbl := List.mem_of_getElem? (i := 367) rfl
set_option maxRecDepth 100000 in
theorem mw_366 : (.methodLink RX5 175 yX1_leastLeftNumber : Cond) ∈ lw_tbl := List.mem_of_getElem? (i := 366) rfl
set_option maxRecDepth 100000 in
theorem mw_365 : (.code yX2_add cX2_add 2 none : Cond) ∈ lw_tbl := List.mem_of_getElem? (i := 365) rfl
set_option maxRecDepth 100000 in
theorem mw_364 : (.selects RX2 yX2_add yX2_add : Cond) ∈ lw_tbl := List.mem_of_getElem? (i := 364) rfl
set_option maxRecDepth 100000 in
theorem mw_363 : (.instanceMethod yX2_add : Cond) ∈ lw_tbl := List.mem_of_getElem? (i := 363) rfl
set_option maxRecDepth 100000 in
theorem mw_362 : (.methodLink RX2 19 yX2_add : Cond) ∈ lw_tbl := List.mem_of_getElem? (i := 362) rfl
set_option maxRecDepth 100000 in
theorem mw_361 : (.code yX2_addNumber cX2_addNumber 3 none : Cond) ∈ lw_tbl := List.mem_of_getElem? (i := 361) rfl
set_option maxRecDepth 100000 in
theorem mw_360 : (.selects RX2 yX2_addNumber yX2_addNumber : Cond) ∈ lw_tbl := List.mem_of_getElem? (i := 360) rfl
set_option maxRecDepth 100000 in
theorem mw_359 : (.instanceMethod yX2_addNumber : Cond) ∈ lw_tbl := List.mem_of_getElem? (i := 359) rfl
set_option maxRecDepth 100000 in
theorem mw_358 : (.methodLink RX5 172 yX2_addNumber : Cond) ∈ lw_tbl := List.mem_of_getElem? (i := 358) rfl
set_option maxRecDepth 100000 in
theorem mw_357 : (.code yX5_writeFirstWay cX5_writeFirstWay 8 none : Cond) ∈ lw_tbl := List.mem_of_getElem? (i := 357) rfl
set_option maxRecDepth 100000 in
theorem mw_356 : (.static yX5_writeFirstWay : Cond) ∈ lw_tbl := List.mem_of_getElem? (i := 356) rfl
set_option maxRecDepth 100000 in
theorem mw_355 : (.methodLink RX5 168 yX5_writeFirstWay : Cond) ∈ lw_tbl := List.mem_of_getElem? (i := 355) rfl
set_option maxRecDepth 100000 in
theorem inT_wsX5_print_r4 : ∀ w ∈ wsX5_print_r4, w ∈ lw_tbl := (List.forall_mem_cons.mpr ⟨mw_355, (List.forall_mem_cons.mpr ⟨mw_356, (List.forall_mem_cons.mpr ⟨mw_357, (List.forall_mem_cons.mpr ⟨mw_342, (List.forall_mem_cons.mpr ⟨mw_358, (List.forall_mem_cons.mpr ⟨mw_359, (List.forall_mem_cons.mpr ⟨mw_360, (List.forall_mem_cons.mpr ⟨mw_37, (List.forall_mem_cons.mpr ⟨mw_361, (List.forall_mem_cons.mpr ⟨mw_362, (List.forall_mem_cons.mpr ⟨mw_363, (List.forall_mem_cons.mpr ⟨mw_364, (List.forall_mem_cons.mpr ⟨mw_365, (List.forall_mem_cons.mpr ⟨mw_142, (List.forall_mem_cons.mpr ⟨mw_141, (List.forall_mem_cons.mpr ⟨mw_366, (List.forall_mem_cons.mpr ⟨mw_367, (List.forall_mem_cons.mpr ⟨mw_368, (List.forall_mem_cons.mpr ⟨mw_369, (List.forall_mem_cons.mpr ⟨mw_371, (List.forall_mem_cons.mpr ⟨mw_372, (List.forall_mem_cons.mpr ⟨mw_373, (List.forall_mem_cons.mpr ⟨mw_375, (List.forall_mem_cons.mpr ⟨mw_376, (fun _ h => absurd h List.not_mem_nil)⟩)⟩)⟩)⟩)⟩)⟩)⟩)⟩)⟩)⟩)⟩)⟩)⟩)⟩)⟩)⟩)⟩)⟩)⟩)⟩)⟩)⟩)⟩)⟩)
set_option maxRecDepth 100000 in
theorem mw_397 : (.static yJ2_charAt_3b067 : Cond) ∈ lw_tbl := List.mem_of_getElem? (i := 397) rfl
set_option maxRecDepth 100000 in
theorem mw_396 : (.methodLink RJ0 498 yJ2_charAt_3b067 : Cond) ∈ lw_tbl := List.mem_of_getElem? (i := 396) rfl
set_option maxRecDepth 100000 in
theorem mw_395 : (.code yJ3_checkIndex_8e157 cJ3_checkIndex_8e157 3 (some .int) : Cond) ∈ lw_tbl := List.mem_of_getElem? (i := 395) rfl
set_option maxRecDepth 100000 in
theorem mw_44 : (.initialized RJ3 : Cond) ∈ lw_tbl := List.mem_of_getElem? (i := 44) rfl
set_option maxRecDepth 100000 in
theorem mw_394 : (.static yJ3_checkIndex_8e157 : Cond) ∈ lw_tbl := List.mem_of_getElem? (i := 394) rfl
set_option maxRecDepth 100000 in
theorem mw_393 : (.methodLink RJ0 1059 yJ3_checkIndex_8e157 : Cond) ∈ lw_tbl := List.mem_of_getElem? (i := 393) rfl
set_option maxRecDepth 100000 in
theorem mw_391 : (.fieldLink RJ0 1053 "jdk/internal/util/Preconditions" "SIOOBE_FORMATTER" "Ljava/util/function/BiFunction;" : Cond) ∈ lw_tbl := List.mem_of_getElem? (i := 391) rfl
set_option maxRecDepth 100000 in
theorem mw_390 : (.code yJ0_checkIndex_df160 cJ0_checkIndex_df160 2 none : Cond) ∈ lw_tbl := List.mem_of_getElem? (i := 390) rfl
set_option maxRecDepth 100000 in
theorem mw_389 : (.static yJ0_checkIndex_df160 : Cond) ∈ lw_tbl := List.mem_of_getElem? (i := 389) rfl
set_option maxRecDepth 100000 in
theorem mw_388 : (.methodLink RJ1 9 yJ0_checkIndex_df160 : Cond) ∈ lw_tbl := List.mem_of_getElem? (i := 388) rfl
set_option maxRecDepth 100000 in
theorem mw_387 : (.code yJ1_charAt_3b067 cJ1_charAt_3b067 2 (some .char) : Cond) ∈ lw_tbl := List.mem_of_getElem? (i := 387) rfl
set_option maxRecDepth 100000 in
theorem mw_43 : (.initialized RJ1 : Cond) ∈ lw_tbl := List.mem_of_getElem? (i := 43) rfl
set_option maxRecDepth 100000 in
theorem mw_386 : (.static yJ1_charAt_3b067 : Cond) ∈ lw_tbl := List.mem_of_getElem? (i := 386) rfl
set_option maxRecDepth 100000 in
theorem mw_385 : (.methodLink RJ0 495 yJ1_charAt_3b067 : Cond) ∈ lw_tbl := List.mem_of_getElem? (i := 385) rfl
set_option maxRecDepth 100000 in
theorem mw_779 : (.fieldLink RJ0 15 "java/lang/String" "coder" "B" : Cond) ∈ lw_tbl := List.mem_of_getElem? (i := 779) rfl
set_option maxRecDepth 100000 in
theorem mw_383 : (.fieldLink RJ0 38 "java/lang/String" "COMPACT_STRINGS" "Z" : Cond) ∈ lw_tbl := List.mem_of_getElem? (i := 383) rfl
set_option maxRecDepth 100000 in
theorem mw_382 : (.code yJ0_isLatin1_aae02 cJ0_isLatin1_aae02 1 (some .boolean) : Cond) ∈ lw_tbl := List.mem_of_getElem? (i := 382) rfl
set_option maxRecDepth 100000 in
theorem mw_381 : (.selects RJ0 yJ0_isLatin1_aae02 yJ0_isLatin1_aae02 : Cond) ∈ lw_tbl := List.mem_of_getElem? (i := 381) rfl
set_option maxRecDepth 100000 in
theorem mw_380 : (.instanceMethod yJ0_isLatin1_aae02 : Cond) ∈ lw_tbl := List.mem_of_getElem? (i := 380) rfl
set_option maxRecDepth 100000 in
theorem mw_379 : (.methodLink RJ0 492 yJ0_isLatin1_aae02 : Cond) ∈ lw_tbl := List.mem_of_getElem? (i := 379) rfl
set_option maxRecDepth 100000 in
theorem mw_780 : (.fieldLink RJ0 9 "java/lang/String" "value" "[B" : Cond) ∈ lw_tbl := List.mem_of_getElem? (i := 780) rfl
set_option maxRecDepth 100000 in
theorem mw_378 : (.code yJ0_charAt_5068e cJ0_charAt_5068e 2 (some .char) : Cond) ∈ lw_tbl := List.mem_of_getElem? (i := 378) rfl
set_option maxRecDepth 100000 in
theorem mw_42 : (.initialized RJ0 : Cond) ∈ lw_tbl := List.mem_of_getElem? (i := 42) rfl
set_option maxRecDepth 100000 in
theorem mw_377 : (.selects RJ0 yJ0_charAt_5068e yJ0_charAt_5068e : Cond) ∈ lw_tbl := List.mem_of_getElem? (i := 377) rfl
set_option maxRecDepth 100000 in
theorem inT_wsX5_print_r5 : ∀ w ∈ wsX5_print_r5, w ∈ lw_tbl := (List.forall_mem_cons.mpr ⟨mw_377, (List.forall_mem_cons.mpr ⟨mw_42, (List.forall_mem_cons.mpr ⟨mw_378, (List.forall_mem_cons.mpr ⟨mw_780, (List.forall_mem_cons.mpr ⟨mw_379, (List.forall_mem_cons.mpr ⟨mw_380, (List.forall_mem_cons.mpr ⟨mw_381, (List.forall_mem_cons.mpr ⟨mw_382, (List.forall_mem_cons.mpr ⟨mw_383, (List.forall_mem_cons.mpr ⟨mw_779, (List.forall_mem_cons.mpr ⟨mw_385, (List.forall_mem_cons.mpr ⟨mw_386, (List.forall_mem_cons.mpr ⟨mw_43, (List.forall_mem_cons.mpr ⟨mw_387, (List.forall_mem_cons.mpr ⟨mw_388, (List.forall_mem_cons.mpr ⟨mw_389, (List.forall_mem_cons.mpr ⟨mw_390, (List.forall_mem_cons.mpr ⟨mw_391, (List.forall_mem_cons.mpr ⟨mw_393, (List.forall_mem_cons.mpr ⟨mw_394, (List.forall_mem_cons.mpr ⟨mw_44, (List.forall_mem_cons.mpr ⟨mw_395, (List.forall_mem_cons.mpr ⟨mw_396, (List.forall_mem_cons.mpr ⟨mw_397, (fun _ h => absurd h List.not_mem_nil)⟩)⟩)⟩)⟩)⟩)⟩)⟩)⟩)⟩)⟩)⟩)⟩)⟩)⟩)⟩)⟩)⟩)⟩)⟩)⟩)⟩)⟩)⟩)⟩)
set_option maxRecDepth 100000 in
theorem mw_415 : (.methodLink RX5 191 yX5_rightNumber : Cond) ∈ lw_tbl := List.mem_of_getElem? (i := 415) rfl
set_option maxRecDepth 100000 in
theorem mw_413 : (.fieldLink RJ2 63 "java/lang/StringUTF16" "LO_BYTE_SHIFT" "I" : Cond) ∈ lw_tbl := List.mem_of_getElem? (i := 413) rfl
set_option maxRecDepth 100000 in
theorem mw_411 : (.fieldLink RJ2 59 "java/lang/StringUTF16" "HI_BYTE_SHIFT" "I" : Cond) ∈ lw_tbl := List.mem_of_getElem? (i := 411) rfl
set_option maxRecDepth 100000 in
theorem mw_409 : (.fieldLink RJ2 44 "java/lang/StringUTF16" "$assertionsDisabled" "Z" : Cond) ∈ lw_tbl := List.mem_of_getElem? (i := 409) rfl
set_option maxRecDepth 100000 in
theorem mw_408 : (.code yJ2_getChar_3b067 cJ2_getChar_3b067 2 (some .char) : Cond) ∈ lw_tbl := List.mem_of_getElem? (i := 408) rfl
set_option maxRecDepth 100000 in
theorem mw_407 : (.static yJ2_getChar_3b067 : Cond) ∈ lw_tbl := List.mem_of_getElem? (i := 407) rfl
set_option maxRecDepth 100000 in
theorem mw_406 : (.methodLink RJ2 71 yJ2_getChar_3b067 : Cond) ∈ lw_tbl := List.mem_of_getElem? (i := 406) rfl
set_option maxRecDepth 100000 in
theorem mw_405 : (.methodLink RJ2 414 yJ0_checkIndex_df160 : Cond) ∈ lw_tbl := List.mem_of_getElem? (i := 405) rfl
set_option maxRecDepth 100000 in
theorem mw_404 : (.code yJ2_length_9d52b cJ2_length_9d52b 1 (some .int) : Cond) ∈ lw_tbl := List.mem_of_getElem? (i := 404) rfl
set_option maxRecDepth 100000 in
theorem mw_403 : (.static yJ2_length_9d52b : Cond) ∈ lw_tbl := List.mem_of_getElem? (i := 403) rfl
set_option maxRecDepth 100000 in
theorem mw_402 : (.methodLink RJ2 48 yJ2_length_9d52b : Cond) ∈ lw_tbl := List.mem_of_getElem? (i := 402) rfl
set_option maxRecDepth 100000 in
theorem mw_401 : (.code yJ2_checkIndex_2214a cJ2_checkIndex_2214a 2 none : Cond) ∈ lw_tbl := List.mem_of_getElem? (i := 401) rfl
set_option maxRecDepth 100000 in
theorem mw_400 : (.static yJ2_checkIndex_2214a : Cond) ∈ lw_tbl := List.mem_of_getElem? (i := 400) rfl
set_option maxRecDepth 100000 in
theorem mw_399 : (.methodLink RJ2 67 yJ2_checkIndex_2214a : Cond) ∈ lw_tbl := List.mem_of_getElem? (i := 399) rfl
set_option maxRecDepth 100000 in
theorem mw_398 : (.code yJ2_charAt_3b067 cJ2_charAt_3b067 2 (some .char) : Cond) ∈ lw_tbl := List.mem_of_getElem? (i := 398) rfl
set_option maxRecDepth 100000 in
theorem mw_45 : (.initialized RJ2 : Cond) ∈ lw_tbl := List.mem_of_getElem? (i := 45) rfl
set_option maxRecDepth 100000 in
theorem inT_wsX5_print_r6 : ∀ w ∈ wsX5_print_r6, w ∈ lw_tbl := (List.forall_mem_cons.mpr ⟨mw_45, (List.forall_mem_cons.mpr ⟨mw_398, (List.forall_mem_cons.mpr ⟨mw_399, (List.forall_mem_cons.mpr ⟨mw_400, (List.forall_mem_cons.mpr ⟨mw_401, (List.forall_mem_cons.mpr ⟨mw_402, (List.forall_mem_cons.mpr ⟨mw_403, (List.forall_mem_cons.mpr ⟨mw_404, (List.forall_mem_cons.mpr ⟨mw_405, (List.forall_mem_cons.mpr ⟨mw_406, (List.forall_mem_cons.mpr ⟨mw_407, (List.forall_mem_cons.mpr ⟨mw_408, (List.forall_mem_cons.mpr ⟨mw_409, (List.forall_mem_cons.mpr ⟨mw_411, (List.forall_mem_cons.mpr ⟨mw_413, (List.forall_mem_cons.mpr ⟨mw_415, (fun _ h => absurd h List.not_mem_nil)⟩)⟩)⟩)⟩)⟩)⟩)⟩)⟩)⟩)⟩)⟩)⟩)⟩)⟩)⟩)⟩)
set_option maxRecDepth 100000 in
theorem inT_wsX5_print : ∀ w ∈ wsX5_print, w ∈ lw_tbl := (List.forall_mem_cons.mpr ⟨mw_350, (List.forall_mem_append.mpr ⟨(List.forall_mem_append.mpr ⟨(List.forall_mem_append.mpr ⟨(List.forall_mem_append.mpr ⟨(List.forall_mem_append.mpr ⟨inT_wsX5_print_r1, (List.forall_mem_append.mpr ⟨inT_wsX5_print_r2, (List.forall_mem_append.mpr ⟨inT_wsX5_print_r3, (List.forall_mem_append.mpr ⟨inT_wsX5_print_r4, (List.forall_mem_append.mpr ⟨inT_wsX5_print_r5, inT_wsX5_print_r6⟩)⟩)⟩)⟩)⟩), inT_X5⟩), inT_X1⟩), inT_X3⟩), inT_X2⟩)⟩)
set_option maxRecDepth 100000 in
theorem mw_349 : (.selects RX5 yX5_print yX5_print : Cond) ∈ lw_tbl := List.mem_of_getElem? (i := 349) rfl
set_option maxRecDepth 100000 in
theorem mw_348 : (.instanceMethod yX5_print : Cond) ∈ lw_tbl := List.mem_of_getElem? (i := 348) rfl
set_option maxRecDepth 100000 in
theorem mw_347 : (.methodLink RL 62 yX5_print : Cond) ∈ lw_tbl := List.mem_of_getElem? (i := 347) rfl
set_option maxRecDepth 100000 in
theorem gT_X5_print : GoodIn lw_tbl (wsV RL 62 RX5 yX5_print wsX5_print) := goodIn_sub (List.forall_mem_append.mpr ⟨(List.forall_mem_cons.mpr ⟨mw_347, (List.forall_mem_cons.mpr ⟨mw_348, (List.forall_mem_cons.mpr ⟨mw_349, (List.forall_mem_cons.mpr ⟨mw_33, (fun _ h => absurd h List.not_mem_nil)⟩)⟩)⟩)⟩), inT_wsX5_print⟩) (by decide +kernel)
set_option maxRecDepth 100000 in
theorem mw_700 : (.code yX6_print cX6_print 3 (some .int) : Cond) ∈ lw_tbl := List.mem_of_getElem? (i := 700) rfl
set_option maxRecDepth 100000 in
theorem inT_wsX6_print_r1 : ∀ w ∈ wsX6_print_r1, w ∈ lw_tbl := (List.forall_mem_cons.mpr ⟨mw_612, (List.forall_mem_cons.mpr ⟨mw_596, (List.forall_mem_cons.mpr ⟨mw_597, (List.forall_mem_cons.mpr ⟨mw_39, (List.forall_mem_cons.mpr ⟨mw_598, (List.forall_mem_cons.mpr ⟨mw_629, (List.forall_mem_cons.mpr ⟨mw_631, (List.forall_mem_cons.mpr ⟨mw_13, (List.forall_mem_cons.mpr ⟨mw_632, (List.forall_mem_cons.mpr ⟨mw_543, (List.forall_mem_cons.mpr ⟨mw_530, (List.forall_mem_cons.mpr ⟨mw_539, (List.forall_mem_cons.mpr ⟨mw_538, (List.forall_mem_cons.mpr ⟨mw_531, (List.forall_mem_cons.mpr ⟨mw_633, (List.forall_mem_cons.mpr ⟨mw_635, (List.forall_mem_cons.mpr ⟨mw_14, (List.forall_mem_cons.mpr ⟨mw_636, (List.forall_mem_cons.mpr ⟨mw_540, (List.forall_mem_cons.mpr ⟨mw_637, (List.forall_mem_cons.mpr ⟨mw_638, (List.forall_mem_cons.mpr ⟨mw_639, (List.forall_mem_cons.mpr ⟨mw_640, (List.forall_mem_cons.mpr ⟨mw_642, (fun _ h => absurd h List.not_mem_nil)⟩)⟩)⟩)⟩)⟩)⟩)⟩)⟩)⟩)⟩)⟩)⟩)⟩)⟩)⟩)⟩)⟩)⟩)⟩)⟩)⟩)⟩)⟩)⟩)
set_option maxRecDepth 100000 in
theorem mw_703 : (.instanceMethod yX6_printed : Cond) ∈ lw_tbl := List.mem_of_getElem? (i := 703) rfl
set_option maxRecDepth 100000 in
theorem mw_701 : (.methodLink RX6 160 yX6_printed : Cond) ∈ lw_tbl := List.mem_of_getElem? (i := 701) rfl
set_option maxRecDepth 100000 in
theorem inT_wsX6_print_r2 : ∀ w ∈ wsX6_print_r2, w ∈ lw_tbl := (List.forall_mem_cons.mpr ⟨mw_15, (List.forall_mem_cons.mpr ⟨mw_643, (List.forall_mem_cons.mpr ⟨mw_541, (List.forall_mem_cons.mpr ⟨mw_542, (List.forall_mem_cons.mpr ⟨mw_644, (List.forall_mem_cons.mpr ⟨mw_646, (List.forall_mem_cons.mpr ⟨mw_16, (List.forall_mem_cons.mpr ⟨mw_647, (List.forall_mem_cons.mpr ⟨mw_648, (List.forall_mem_cons.mpr ⟨mw_650, (List.forall_mem_cons.mpr ⟨mw_17, (List.forall_mem_cons.mpr ⟨mw_651, (List.forall_mem_cons.mpr ⟨mw_532, (List.forall_mem_cons.mpr ⟨mw_652, (List.forall_mem_cons.mpr ⟨mw_654, (List.forall_mem_cons.mpr ⟨mw_18, (List.forall_mem_cons.mpr ⟨mw_655, (List.forall_mem_cons.mpr ⟨mw_533, (List.forall_mem_cons.mpr ⟨mw_689, (List.forall_mem_cons.mpr ⟨mw_691, (List.forall_mem_cons.mpr ⟨mw_22, (List.forall_mem_cons.mpr ⟨mw_692, (List.forall_mem_cons.mpr ⟨mw_701, (List.forall_mem_cons.mpr ⟨mw_703, (fun _ h => absurd h List.not_mem_nil)⟩)⟩)⟩)⟩)⟩)⟩)⟩)⟩)⟩)⟩)⟩)⟩)⟩)⟩)⟩)⟩)⟩)⟩)⟩)⟩)⟩)⟩)⟩)⟩)
set_option maxRecDepth 100000 in
theorem mw_721 : (.methodLink RX6 144 yX6_other : Cond) ∈ lw_tbl := List.mem_of_getElem? (i := 721) rfl
set_option maxRecDepth 100000 in
theorem mw_720 : (.code yX6_part cX6_part 9 none : Cond) ∈ lw_tbl := List.mem_of_getElem? (i := 720) rfl
set_option maxRecDepth 100000 in
theorem mw_28 : (.selects RX6 yX6_part yX6_part : Cond) ∈ lw_tbl := List.mem_of_getElem? (i := 28) rfl
set_option maxRecDepth 100000 in
theorem mw_719 : (.instanceMethod yX6_part : Cond) ∈ lw_tbl := List.mem_of_getElem? (i := 719) rfl
set_option maxRecDepth 100000 in
theorem mw_717 : (.methodLink RX6 157 yX6_part : Cond) ∈ lw_tbl := List.mem_of_getElem? (i := 717) rfl
set_option maxRecDepth 100000 in
theorem mw_716 : (.code yX6_putNumber cX6_putNumber 2 none : Cond) ∈ lw_tbl := List.mem_of_getElem? (i := 716) rfl
set_option maxRecDepth 100000 in
theorem mw_27 : (.selects RX6 yX6_putNumber yX6_putNumber : Cond) ∈ lw_tbl := List.mem_of_getElem? (i := 27) rfl
set_option maxRecDepth 100000 in
theorem mw_715 : (.instanceMethod yX6_putNumber : Cond) ∈ lw_tbl := List.mem_of_getElem? (i := 715) rfl
set_option maxRecDepth 100000 in
theorem mw_713 : (.methodLink RX6 154 yX6_putNumber : Cond) ∈ lw_tbl := List.mem_of_getElem? (i := 713) rfl
set_option maxRecDepth 100000 in
theorem mw_712 : (.code yX6_put cX6_put 2 none : Cond) ∈ lw_tbl := List.mem_of_getElem? (i := 712) rfl
set_option maxRecDepth 100000 in
theorem mw_26 : (.selects RX6 yX6_put yX6_put : Cond) ∈ lw_tbl := List.mem_of_getElem? (i := 26) rfl
set_option maxRecDepth 100000 in
theorem mw_711 : (.instanceMethod yX6_put : Cond) ∈ lw_tbl := List.mem_of_getElem? (i := 711) rfl
set_option maxRecDepth 100000 in
theorem mw_709 : (.methodLink RX6 140 yX6_put : Cond) ∈ lw_tbl := List.mem_of_getElem? (i := 709) rfl
set_option maxRecDepth 100000 in
theorem mw_708 : (.code yX6_later cX6_later 3 none : Cond) ∈ lw_tbl := List.mem_of_getElem? (i := 708) rfl
set_option maxRecDepth 100000 in
theorem mw_25 : (.selects RX6 yX6_later yX6_later : Cond) ∈ lw_tbl := List.mem_of_getElem? (i := 25) rfl
set_option maxRecDepth 100000 in
theorem mw_707 : (.instanceMethod yX6_later : Cond) ∈ lw_tbl := List.mem_of_getElem? (i := 707) rfl
set_option maxRecDepth 100000 in
theorem mw_705 : (.methodLink RX6 148 yX6_later : Cond) ∈ lw_tbl := List.mem_of_getElem? (i := 705) rfl
set_option maxRecDepth 100000 in
theorem mw_546 : (.fieldLink RX6 137 "SixNumbersModel" "todos" "I" : Cond) ∈ lw_tbl := List.mem_of_getElem? (i := 546) rfl
set_option maxRecDepth 100000 in
theorem mw_704 : (.code yX6_printed cX6_printed 5 (some .int) : Cond) ∈ lw_tbl := List.mem_of_getElem? (i := 704) rfl
set_option maxRecDepth 100000 in
theorem mw_24 : (.selects RX6 yX6_printed yX6_printed : Cond) ∈ lw_tbl := List.mem_of_getElem? (i := 24) rfl
set_option maxRecDepth 100000 in
theorem inT_wsX6_print_r3 : ∀ w ∈ wsX6_print_r3, w ∈ lw_tbl := (List.forall_mem_cons.mpr ⟨mw_24, (List.forall_mem_cons.mpr ⟨mw_704, (List.forall_mem_cons.mpr ⟨mw_537, (List.forall_mem_cons.mpr ⟨mw_546, (List.forall_mem_cons.mpr ⟨mw_544, (List.forall_mem_cons.mpr ⟨mw_545, (List.forall_mem_cons.mpr ⟨mw_705, (List.forall_mem_cons.mpr ⟨mw_707, (List.forall_mem_cons.mpr ⟨mw_25, (List.forall_mem_cons.mpr ⟨mw_708, (List.forall_mem_cons.mpr ⟨mw_709, (List.forall_mem_cons.mpr ⟨mw_711, (List.forall_mem_cons.mpr ⟨mw_26, (List.forall_mem_cons.mpr ⟨mw_712, (List.forall_mem_cons.mpr ⟨mw_536, (List.forall_mem_cons.mpr ⟨mw_713, (List.forall_mem_cons.mpr ⟨mw_715, (List.forall_mem_cons.mpr ⟨mw_27, (List.forall_mem_cons.mpr ⟨mw_716, (List.forall_mem_cons.mpr ⟨mw_717, (List.forall_mem_cons.mpr ⟨mw_719, (List.forall_mem_cons.mpr ⟨mw_28, (List.forall_mem_cons.mpr ⟨mw_720, (List.forall_mem_cons.mpr ⟨mw_721, (fun _ h => absurd h List.not_mem_nil)⟩)⟩)⟩)⟩)⟩)⟩)⟩)⟩)⟩)⟩)⟩)⟩)⟩)⟩)⟩)⟩)⟩)⟩)⟩)⟩)⟩)⟩)⟩)⟩)
set_option maxRecDepth 100000 in
theorem mw_727 : (.code yX6_signOf cX6_signOf 1 (some .int) : Cond) ∈ lw_tbl := List.mem_of_getElem? (i := 727) rfl
set_option maxRecDepth 100000 in
theorem mw_726 : (.static yX6_signOf : Cond) ∈ lw_tbl := List.mem_of_getElem? (i := 726) rfl
set_option maxRecDepth 100000 in
theorem mw_725 : (.methodLink RX6 151 yX6_signOf : Cond) ∈ lw_tbl := List.mem_of_getElem? (i := 725) rfl
set_option maxRecDepth 100000 in
theorem mw_724 : (.code yX6_other cX6_other 4 (some .int) : Cond) ∈ lw_tbl := List.mem_of_getElem? (i := 724) rfl
set_option maxRecDepth 100000 in
theorem mw_29 : (.selects RX6 yX6_other yX6_other : Cond) ∈ lw_tbl := List.mem_of_getElem? (i := 29) rfl
set_option maxRecDepth 100000 in
theorem mw_723 : (.instanceMethod yX6_other : Cond) ∈ lw_tbl := List.mem_of_getElem? (i := 723) rfl
set_option maxRecDepth 100000 in
theorem inT_wsX6_print_r4 : ∀ w ∈ wsX6_print_r4, w ∈ lw_tbl := (List.forall_mem_cons.mpr ⟨mw_723, (List.forall_mem_cons.mpr ⟨mw_29, (List.forall_mem_cons.mpr ⟨mw_724, (List.forall_mem_cons.mpr ⟨mw_725, (List.forall_mem_cons.mpr ⟨mw_726, (List.forall_mem_cons.mpr ⟨mw_727, (fun _ h => absurd h List.not_mem_nil)⟩)⟩)⟩)⟩)⟩)⟩)
set_option maxRecDepth 100000 in
theorem inT_wsX6_print : ∀ w ∈ wsX6_print, w ∈ lw_tbl := (List.forall_mem_cons.mpr ⟨mw_700, (List.forall_mem_append.mpr ⟨(List.forall_mem_append.mpr ⟨inT_wsX6_print_r1, (List.forall_mem_append.mpr ⟨inT_wsX6_print_r2, (List.forall_mem_append.mpr ⟨inT_wsX6_print_r3, inT_wsX6_print_r4⟩)⟩)⟩), inT_X6⟩)⟩)
set_option maxRecDepth 100000 in
theorem mw_699 : (.selects RX6 yX6_print yX6_print : Cond) ∈ lw_tbl := List.mem_of_getElem? (i := 699) rfl
set_option maxRecDepth 100000 in
theorem mw_698 : (.instanceMethod yX6_print : Cond) ∈ lw_tbl := List.mem_of_getElem? (i := 698) rfl
set_option maxRecDepth 100000 in
theorem mw_697 : (.methodLink RL 65 yX6_print : Cond) ∈ lw_tbl := List.mem_of_getElem? (i := 697) rfl
set_option maxRecDepth 100000 in
theorem gT_X6_print : GoodIn lw_tbl (wsV RL 65 RX6 yX6_print wsX6_print) := goodIn_sub (List.forall_mem_append.mpr ⟨(List.forall_mem_cons.mpr ⟨mw_697, (List.forall_mem_cons.mpr ⟨mw_698, (List.forall_mem_cons.mpr ⟨mw_699, (List.forall_mem_cons.mpr ⟨mw_39, (fun _ h => absurd h List.not_mem_nil)⟩)⟩)⟩)⟩), inT_wsX6_print⟩) (by decide +kernel)
set_option maxRecDepth 100000 in
theorem mw_420 : (.code yX5_printOf cX5_printOf 3 (some .int) : Cond) ∈ lw_tbl := List.mem_of_getElem? (i := 420) rfl
set_option maxRecDepth 100000 in
theorem inT_wsX5_printOf_r1 : ∀ w ∈ wsX5_printOf_r1, w ∈ lw_tbl := (List.forall_mem_cons.mpr ⟨mw_170, (List.forall_mem_cons.mpr ⟨mw_245, (List.forall_mem_cons.mpr ⟨mw_247, (List.forall_mem_cons.mpr ⟨mw_0, (List.forall_mem_cons.mpr ⟨mw_33, (List.forall_mem_cons.mpr ⟨mw_248, (List.forall_mem_cons.mpr ⟨mw_249, (List.forall_mem_cons.mpr ⟨mw_250, (List.forall_mem_cons.mpr ⟨mw_251, (List.forall_mem_cons.mpr ⟨mw_35, (List.forall_mem_cons.mpr ⟨mw_252, (List.forall_mem_cons.mpr ⟨mw_86, (List.forall_mem_cons.mpr ⟨mw_192, (List.forall_mem_cons.mpr ⟨mw_193, (List.forall_mem_cons.mpr ⟨mw_194, (List.forall_mem_cons.mpr ⟨mw_254, (List.forall_mem_cons.mpr ⟨mw_255, (List.forall_mem_cons.mpr ⟨mw_256, (List.forall_mem_cons.mpr ⟨mw_257, (List.forall_mem_cons.mpr ⟨mw_88, (List.forall_mem_cons.mpr ⟨mw_84, (List.forall_mem_cons.mpr ⟨mw_258, (List.forall_mem_cons.mpr ⟨mw_260, (List.forall_mem_cons.mpr ⟨mw_1, (fun _ h => absurd h List.not_mem_nil)⟩)⟩)⟩)⟩)⟩)⟩)⟩)⟩)⟩)⟩)⟩)⟩)⟩)⟩)⟩)⟩)⟩)⟩)⟩)⟩)⟩)⟩)⟩)⟩)
set_option maxRecDepth 100000 in
theorem inT_wsX5_printOf_r2 : ∀ w ∈ wsX5_printOf_r2, w ∈ lw_tbl := (List.forall_mem_cons.mpr ⟨mw_261, (List.forall_mem_cons.mpr ⟨mw_83, (List.forall_mem_cons.mpr ⟨mw_82, (List.forall_mem_cons.mpr ⟨mw_85, (List.forall_mem_cons.mpr ⟨mw_262, (List.forall_mem_cons.mpr ⟨mw_263, (List.forall_mem_cons.mpr ⟨mw_265, (List.forall_mem_cons.mpr ⟨mw_2, (List.forall_mem_cons.mpr ⟨mw_266, (List.forall_mem_cons.mpr ⟨mw_81, (List.forall_mem_cons.mpr ⟨mw_267, (List.forall_mem_cons.mpr ⟨mw_269, (List.forall_mem_cons.mpr ⟨mw_3, (List.forall_mem_cons.mpr ⟨mw_270, (List.forall_mem_cons.mpr ⟨mw_271, (List.forall_mem_cons.mpr ⟨mw_273, (List.forall_mem_cons.mpr ⟨mw_4, (List.forall_mem_cons.mpr ⟨mw_274, (List.forall_mem_cons.mpr ⟨mw_80, (List.forall_mem_cons.mpr ⟨mw_279, (List.forall_mem_cons.mpr ⟨mw_280, (List.forall_mem_cons.mpr ⟨mw_40, (List.forall_mem_cons.mpr ⟨mw_281, (List.forall_mem_cons.mpr ⟨mw_275, (fun _ h => absurd h List.not_mem_nil)⟩)⟩)⟩)⟩)⟩)⟩)⟩)⟩)⟩)⟩)⟩)⟩)⟩)⟩)⟩)⟩)⟩)⟩)⟩)⟩)⟩)⟩)⟩)⟩)
set_option maxRecDepth 100000 in
theorem inT_wsX5_printOf_r3 : ∀ w ∈ wsX5_printOf_r3, w ∈ lw_tbl := (List.forall_mem_cons.mpr ⟨mw_276, (List.forall_mem_cons.mpr ⟨mw_277, (List.forall_mem_cons.mpr ⟨mw_34, (List.forall_mem_cons.mpr ⟨mw_278, (List.forall_mem_cons.mpr ⟨mw_60, (List.forall_mem_cons.mpr ⟨mw_282, (List.forall_mem_cons.mpr ⟨mw_283, (List.forall_mem_cons.mpr ⟨mw_284, (List.forall_mem_cons.mpr ⟨mw_285, (List.forall_mem_cons.mpr ⟨mw_351, (List.forall_mem_cons.mpr ⟨mw_353, (List.forall_mem_cons.mpr ⟨mw_6, (List.forall_mem_cons.mpr ⟨mw_354, (List.forall_mem_cons.mpr ⟨mw_173, (List.forall_mem_cons.mpr ⟨mw_355, (List.forall_mem_cons.mpr ⟨mw_356, (List.forall_mem_cons.mpr ⟨mw_357, (List.forall_mem_cons.mpr ⟨mw_342, (List.forall_mem_cons.mpr ⟨mw_337, (List.forall_mem_cons.mpr ⟨mw_41, (List.forall_mem_cons.mpr ⟨mw_338, (List.forall_mem_cons.mpr ⟨mw_339, (List.forall_mem_cons.mpr ⟨mw_340, (List.forall_mem_cons.mpr ⟨mw_341, (fun _ h => absurd h List.not_mem_nil)⟩)⟩)⟩)⟩)⟩)⟩)⟩)⟩)⟩)⟩)⟩)⟩)⟩)⟩)⟩)⟩)⟩)⟩)⟩)⟩)⟩)⟩)⟩)⟩)
set_option maxRecDepth 100000 in
theorem inT_wsX5_printOf_r4 : ∀ w ∈ wsX5_printOf_r4, w ∈ lw_tbl := (List.forall_mem_cons.mpr ⟨mw_358, (List.forall_mem_cons.mpr ⟨mw_359, (List.forall_mem_cons.mpr ⟨mw_360, (List.forall_mem_cons.mpr ⟨mw_37, (List.forall_mem_cons.mpr ⟨mw_361, (List.forall_mem_cons.mpr ⟨mw_362, (List.forall_mem_cons.mpr ⟨mw_363, (List.forall_mem_cons.mpr ⟨mw_364, (List.forall_mem_cons.mpr ⟨mw_365, (List.forall_mem_cons.mpr ⟨mw_142, (List.forall_mem_cons.mpr ⟨mw_141, (List.forall_mem_cons.mpr ⟨mw_366, (List.forall_mem_cons.mpr ⟨mw_367, (List.forall_mem_cons.mpr ⟨mw_368, (List.forall_mem_cons.mpr ⟨mw_369, (List.forall_mem_cons.mpr ⟨mw_371, (List.forall_mem_cons.mpr ⟨mw_372, (List.forall_mem_cons.mpr ⟨mw_294, (List.forall_mem_cons.mpr ⟨mw_373, (List.forall_mem_cons.mpr ⟨mw_375, (List.forall_mem_cons.mpr ⟨mw_376, (List.forall_mem_cons.mpr ⟨mw_377, (List.forall_mem_cons.mpr ⟨mw_42, (List.forall_mem_cons.mpr ⟨mw_378, (fun _ h => absurd h List.not_mem_nil)⟩)⟩)⟩)⟩)⟩)⟩)⟩)⟩)⟩)⟩)⟩)⟩)⟩)⟩)⟩)⟩)⟩)⟩)⟩)⟩)⟩)⟩)⟩)⟩)
set_option maxRecDepth 100000 in
theorem inT_wsX5_printOf_r5 : ∀ w ∈ wsX5_printOf_r5, w ∈ lw_tbl := (List.forall_mem_cons.mpr ⟨mw_780, (List.forall_mem_cons.mpr ⟨mw_379, (List.forall_mem_cons.mpr ⟨mw_380, (List.forall_mem_cons.mpr ⟨mw_381, (List.forall_mem_cons.mpr ⟨mw_382, (List.forall_mem_cons.mpr ⟨mw_383, (List.forall_mem_cons.mpr ⟨mw_779, (List.forall_mem_cons.mpr ⟨mw_385, (List.forall_mem_cons.mpr ⟨mw_386, (List.forall_mem_cons.mpr ⟨mw_43, (List.forall_mem_cons.mpr ⟨mw_387, (List.forall_mem_cons.mpr ⟨mw_388, (List.forall_mem_cons.mpr ⟨mw_389, (List.forall_mem_cons.mpr ⟨mw_390, (List.forall_mem_cons.mpr ⟨mw_391, (List.forall_mem_cons.mpr ⟨mw_393, (List.forall_mem_cons.mpr ⟨mw_394, (List.forall_mem_cons.mpr ⟨mw_44, (List.forall_mem_cons.mpr ⟨mw_395, (List.forall_mem_cons.mpr ⟨mw_396, (List.forall_mem_cons.mpr ⟨mw_397, (List.forall_mem_cons.mpr ⟨mw_45, (List.forall_mem_cons.mpr ⟨mw_398, (List.forall_mem_cons.mpr ⟨mw_399, (fun _ h => absurd h List.not_mem_nil)⟩)⟩)⟩)⟩)⟩)⟩)⟩)⟩)⟩)⟩)⟩)⟩)⟩)⟩)⟩)⟩)⟩)⟩)⟩)⟩)⟩)⟩)⟩)⟩)
set_option maxRecDepth 100000 in
theorem inT_wsX5_printOf_r6 : ∀ w ∈ wsX5_printOf_r6, w ∈ lw_tbl := (List.forall_mem_cons.mpr ⟨mw_400, (List.forall_mem_cons.mpr ⟨mw_401, (List.forall_mem_cons.mpr ⟨mw_402, (List.forall_mem_cons.mpr ⟨mw_403, (List.forall_mem_cons.mpr ⟨mw_404, (List.forall_mem_cons.mpr ⟨mw_405, (List.forall_mem_cons.mpr ⟨mw_406, (List.forall_mem_cons.mpr ⟨mw_407, (List.forall_mem_cons.mpr ⟨mw_408, (List.forall_mem_cons.mpr ⟨mw_409, (List.forall_mem_cons.mpr ⟨mw_411, (List.forall_mem_cons.mpr ⟨mw_413, (List.forall_mem_cons.mpr ⟨mw_415, (fun _ h => absurd h List.not_mem_nil)⟩)⟩)⟩)⟩)⟩)⟩)⟩)⟩)⟩)⟩)⟩)⟩)⟩)
set_option maxRecDepth 100000 in
theorem inT_wsX5_printOf : ∀ w ∈ wsX5_printOf, w ∈ lw_tbl := (List.forall_mem_cons.mpr ⟨mw_420, (List.forall_mem_append.mpr ⟨(List.forall_mem_append.mpr ⟨(List.forall_mem_append.mpr ⟨(List.forall_mem_append.mpr ⟨(List.forall_mem_append.mpr ⟨inT_wsX5_printOf_r1, (List.forall_mem_append.mpr ⟨inT_wsX5_printOf_r2, (List.forall_mem_append.mpr ⟨inT_wsX5_printOf_r3, (List.forall_mem_append.mpr ⟨inT_wsX5_printOf_r4, (List.forall_mem_append.mpr ⟨inT_wsX5_printOf_r5, inT_wsX5_printOf_r6⟩)⟩)⟩)⟩)⟩), inT_X5⟩), inT_X1⟩), inT_X3⟩), inT_X2⟩)⟩)
set_option maxRecDepth 100000 in
theorem mw_419 : (.selects RX5 yX5_printOf yX5_printOf : Cond) ∈ lw_tbl := List.mem_of_getElem? (i := 419) rfl
set_option maxRecDepth 100000 in
theorem mw_418 : (.instanceMethod yX5_printOf : Cond) ∈ lw_tbl := List.mem_of_getElem? (i := 418) rfl
set_option maxRecDepth 100000 in
theorem mw_417 : (.methodLink RL 66 yX5_printOf : Cond) ∈ lw_tbl := List.mem_of_getElem? (i := 417) rfl
set_option maxRecDepth 100000 in
theorem gT_X5_printOf : GoodIn lw_tbl (wsV RL 66 RX5 yX5_printOf wsX5_printOf) := goodIn_sub (List.forall_mem_append.mpr ⟨(List.forall_mem_cons.mpr ⟨mw_417, (List.forall_mem_cons.mpr ⟨mw_418, (List.forall_mem_cons.mpr ⟨mw_419, (List.forall_mem_cons.mpr ⟨mw_33, (fun _ h => absurd h List.not_mem_nil)⟩)⟩)⟩)⟩), inT_wsX5_printOf⟩) (by decide +kernel)
set_option maxRecDepth 100000 in
theorem mw_731 : (.code yX6_printOf cX6_printOf 3 (some .int) : Cond) ∈ lw_tbl := List.mem_of_getElem? (i := 731) rfl
set_option maxRecDepth 100000 in
theorem inT_wsX6_printOf_r1 : ∀ w ∈ wsX6_printOf_r1, w ∈ lw_tbl := (List.forall_mem_cons.mpr ⟨mw_612, (List.forall_mem_cons.mpr ⟨mw_540, (List.forall_mem_cons.mpr ⟨mw_624, (List.forall_mem_cons.mpr ⟨mw_626, (List.forall_mem_cons.mpr ⟨mw_12, (List.forall_mem_cons.mpr ⟨mw_39, (List.forall_mem_cons.mpr ⟨mw_627, (List.forall_mem_cons.mpr ⟨mw_530, (List.forall_mem_cons.mpr ⟨mw_596, (List.forall_mem_cons.mpr ⟨mw_597, (List.forall_mem_cons.mpr ⟨mw_598, (List.forall_mem_cons.mpr ⟨mw_629, (List.forall_mem_cons.mpr ⟨mw_631, (List.forall_mem_cons.mpr ⟨mw_13, (List.forall_mem_cons.mpr ⟨mw_632, (List.forall_mem_cons.mpr ⟨mw_543, (List.forall_mem_cons.mpr ⟨mw_539, (List.forall_mem_cons.mpr ⟨mw_538, (List.forall_mem_cons.mpr ⟨mw_531, (List.forall_mem_cons.mpr ⟨mw_633, (List.forall_mem_cons.mpr ⟨mw_635, (List.forall_mem_cons.mpr ⟨mw_14, (List.forall_mem_cons.mpr ⟨mw_636, (List.forall_mem_cons.mpr ⟨mw_637, (fun _ h => absurd h List.not_mem_nil)⟩)⟩)⟩)⟩)⟩)⟩)⟩)⟩)⟩)⟩)⟩)⟩)⟩)⟩)⟩)⟩)⟩)⟩)⟩)⟩)⟩)⟩)⟩)⟩)
set_option maxRecDepth 100000 in
theorem inT_wsX6_printOf_r2 : ∀ w ∈ wsX6_printOf_r2, w ∈ lw_tbl := (List.forall_mem_cons.mpr ⟨mw_638, (List.forall_mem_cons.mpr ⟨mw_639, (List.forall_mem_cons.mpr ⟨mw_640, (List.forall_mem_cons.mpr ⟨mw_642, (List.forall_mem_cons.mpr ⟨mw_15, (List.forall_mem_cons.mpr ⟨mw_643, (List.forall_mem_cons.mpr ⟨mw_541, (List.forall_mem_cons.mpr ⟨mw_542, (List.forall_mem_cons.mpr ⟨mw_644, (List.forall_mem_cons.mpr ⟨mw_646, (List.forall_mem_cons.mpr ⟨mw_16, (List.forall_mem_cons.mpr ⟨mw_647, (List.forall_mem_cons.mpr ⟨mw_648, (List.forall_mem_cons.mpr ⟨mw_650, (List.forall_mem_cons.mpr ⟨mw_17, (List.forall_mem_cons.mpr ⟨mw_651, (List.forall_mem_cons.mpr ⟨mw_532, (List.forall_mem_cons.mpr ⟨mw_652, (List.forall_mem_cons.mpr ⟨mw_654, (List.forall_mem_cons.mpr ⟨mw_18, (List.forall_mem_cons.mpr ⟨mw_655, (List.forall_mem_cons.mpr ⟨mw_533, (List.forall_mem_cons.mpr ⟨mw_701, (List.forall_mem_cons.mpr ⟨mw_703, (fun _ h => absurd h List.not_mem_nil)⟩)⟩)⟩)⟩)⟩)⟩)⟩)⟩)⟩)⟩)⟩)⟩)⟩)⟩)⟩)⟩)⟩)⟩)⟩)⟩)⟩)⟩)⟩)⟩)
set_option maxRecDepth 100000 in
theorem inT_wsX6_printOf_r3 : ∀ w ∈ wsX6_printOf_r3, w ∈ lw_tbl := (List.forall_mem_cons.mpr ⟨mw_24, (List.forall_mem_cons.mpr ⟨mw_704, (List.forall_mem_cons.mpr ⟨mw_537, (List.forall_mem_cons.mpr ⟨mw_546, (List.forall_mem_cons.mpr ⟨mw_544, (List.forall_mem_cons.mpr ⟨mw_545, (List.forall_mem_cons.mpr ⟨mw_705, (List.forall_mem_cons.mpr ⟨mw_707, (List.forall_mem_cons.mpr ⟨mw_25, (List.forall_mem_cons.mpr ⟨mw_708, (List.forall_mem_cons.mpr ⟨mw_709, (List.forall_mem_cons.mpr ⟨mw_711, (List.forall_mem_cons.mpr ⟨mw_26, (List.forall_mem_cons.mpr ⟨mw_712, (List.forall_mem_cons.mpr ⟨mw_536, (List.forall_mem_cons.mpr ⟨mw_713, (List.forall_mem_cons.mpr ⟨mw_715, (List.forall_mem_cons.mpr ⟨mw_27, (List.forall_mem_cons.mpr ⟨mw_716, (List.forall_mem_cons.mpr ⟨mw_717, (List.forall_mem_cons.mpr ⟨mw_719, (List.forall_mem_cons.mpr ⟨mw_28, (List.forall_mem_cons.mpr ⟨mw_720, (List.forall_mem_cons.mpr ⟨mw_721, (fun _ h => absurd h List.not_mem_nil)⟩)⟩)⟩)⟩)⟩)⟩)⟩)⟩)⟩)⟩)⟩)⟩)⟩)⟩)⟩)⟩)⟩)⟩)⟩)⟩)⟩)⟩)⟩)⟩)
set_option maxRecDepth 100000 in
theorem inT_wsX6_printOf_r4 : ∀ w ∈ wsX6_printOf_r4, w ∈ lw_tbl := (List.forall_mem_cons.mpr ⟨mw_723, (List.forall_mem_cons.mpr ⟨mw_29, (List.forall_mem_cons.mpr ⟨mw_724, (List.forall_mem_cons.mpr ⟨mw_725, (List.forall_mem_cons.mpr ⟨mw_726, (List.forall_mem_cons.mpr ⟨mw_727, (fun _ h => absurd h List.not_mem_nil)⟩)⟩)⟩)⟩)⟩)⟩)
set_option maxRecDepth 100000 in
theorem inT_wsX6_printOf : ∀ w ∈ wsX6_printOf, w ∈ lw_tbl := (List.forall_mem_cons.mpr ⟨mw_731, (List.forall_mem_append.mpr ⟨(List.forall_mem_append.mpr ⟨inT_wsX6_printOf_r1, (List.forall_mem_append.mpr ⟨inT_wsX6_printOf_r2, (List.forall_mem_append.mpr ⟨inT_wsX6_printOf_r3, inT_wsX6_printOf_r4⟩)⟩)⟩), inT_X6⟩)⟩)
set_option maxRecDepth 100000 in
theorem mw_730 : (.selects RX6 yX6_printOf yX6_printOf : Cond) ∈ lw_tbl := List.mem_of_getElem? (i := 730) rfl
set_option maxRecDepth 100000 in
theorem mw_729 : (.instanceMethod yX6_printOf : Cond) ∈ lw_tbl := List.mem_of_getElem? (i := 729) rfl
set_option maxRecDepth 100000 in
theorem mw_728 : (.methodLink RL 69 yX6_printOf : Cond) ∈ lw_tbl := List.mem_of_getElem? (i := 728) rfl
set_option maxRecDepth 100000 in
theorem gT_X6_printOf : GoodIn lw_tbl (wsV RL 69 RX6 yX6_printOf wsX6_printOf) := goodIn_sub (List.forall_mem_append.mpr ⟨(List.forall_mem_cons.mpr ⟨mw_728, (List.forall_mem_cons.mpr ⟨mw_729, (List.forall_mem_cons.mpr ⟨mw_730, (List.forall_mem_cons.mpr ⟨mw_39, (fun _ h => absurd h List.not_mem_nil)⟩)⟩)⟩)⟩), inT_wsX6_printOf⟩) (by decide +kernel)
set_option maxRecDepth 100000 in
theorem mw_424 : (.code yX5_out cX5_out 2 (some .int) : Cond) ∈ lw_tbl := List.mem_of_getElem? (i := 424) rfl
set_option maxRecDepth 100000 in
theorem mw_428 : (.code yX2_byteAt cX2_byteAt 2 (some .int) : Cond) ∈ lw_tbl := List.mem_of_getElem? (i := 428) rfl
set_option maxRecDepth 100000 in
theorem mw_427 : (.selects RX2 yX2_byteAt yX2_byteAt : Cond) ∈ lw_tbl := List.mem_of_getElem? (i := 427) rfl
set_option maxRecDepth 100000 in
theorem mw_426 : (.instanceMethod yX2_byteAt : Cond) ∈ lw_tbl := List.mem_of_getElem? (i := 426) rfl
set_option maxRecDepth 100000 in
theorem mw_425 : (.methodLink RX5 138 yX2_byteAt : Cond) ∈ lw_tbl := List.mem_of_getElem? (i := 425) rfl
set_option maxRecDepth 100000 in
theorem inT_wsX5_out : ∀ w ∈ wsX5_out, w ∈ lw_tbl := (List.forall_mem_cons.mpr ⟨mw_424, (List.forall_mem_append.mpr ⟨(List.forall_mem_append.mpr ⟨(List.forall_mem_cons.mpr ⟨mw_173, (List.forall_mem_cons.mpr ⟨mw_425, (List.forall_mem_cons.mpr ⟨mw_426, (List.forall_mem_cons.mpr ⟨mw_427, (List.forall_mem_cons.mpr ⟨mw_37, (List.forall_mem_cons.mpr ⟨mw_428, (List.forall_mem_cons.mpr ⟨mw_142, (List.forall_mem_cons.mpr ⟨mw_141, (fun _ h => absurd h List.not_mem_nil)⟩)⟩)⟩)⟩)⟩)⟩)⟩)⟩), inT_X5⟩), inT_X2⟩)⟩)
set_option maxRecDepth 100000 in
theorem mw_423 : (.selects RX5 yX5_out yX5_out : Cond) ∈ lw_tbl := List.mem_of_getElem? (i := 423) rfl
set_option maxRecDepth 100000 in
theorem mw_422 : (.instanceMethod yX5_out : Cond) ∈ lw_tbl := List.mem_of_getElem? (i := 422) rfl
set_option maxRecDepth 100000 in
theorem mw_421 : (.methodLink RL 70 yX5_out : Cond) ∈ lw_tbl := List.mem_of_getElem? (i := 421) rfl
set_option maxRecDepth 100000 in
theorem gT_X5_out : GoodIn lw_tbl (wsV RL 70 RX5 yX5_out wsX5_out) := goodIn_sub (List.forall_mem_append.mpr ⟨(List.forall_mem_cons.mpr ⟨mw_421, (List.forall_mem_cons.mpr ⟨mw_422, (List.forall_mem_cons.mpr ⟨mw_423, (List.forall_mem_cons.mpr ⟨mw_33, (fun _ h => absurd h List.not_mem_nil)⟩)⟩)⟩)⟩), inT_wsX5_out⟩) (by decide +kernel)
set_option maxRecDepth 100000 in
theorem mw_735 : (.code yX6_out cX6_out 2 (some .int) : Cond) ∈ lw_tbl := List.mem_of_getElem? (i := 735) rfl
set_option maxRecDepth 100000 in
theorem inT_wsX6_out : ∀ w ∈ wsX6_out, w ∈ lw_tbl := (List.forall_mem_cons.mpr ⟨mw_735, (List.forall_mem_append.mpr ⟨(List.forall_mem_cons.mpr ⟨mw_537, (List.forall_mem_cons.mpr ⟨mw_536, (List.forall_mem_cons.mpr ⟨mw_596, (List.forall_mem_cons.mpr ⟨mw_597, (List.forall_mem_cons.mpr ⟨mw_39, (List.forall_mem_cons.mpr ⟨mw_598, (fun _ h => absurd h List.not_mem_nil)⟩)⟩)⟩)⟩)⟩)⟩), inT_X6⟩)⟩)
set_option maxRecDepth 100000 in
theorem mw_734 : (.selects RX6 yX6_out yX6_out : Cond) ∈ lw_tbl := List.mem_of_getElem? (i := 734) rfl
set_option maxRecDepth 100000 in
theorem mw_733 : (.instanceMethod yX6_out : Cond) ∈ lw_tbl := List.mem_of_getElem? (i := 733) rfl
set_option maxRecDepth 100000 in
theorem mw_732 : (.methodLink RL 73 yX6_out : Cond) ∈ lw_tbl := List.mem_of_getElem? (i := 732) rfl
set_option maxRecDepth 100000 in
theorem gT_X6_out : GoodIn lw_tbl (wsV RL 73 RX6 yX6_out wsX6_out) := goodIn_sub (List.forall_mem_append.mpr ⟨(List.forall_mem_cons.mpr ⟨mw_732, (List.forall_mem_cons.mpr ⟨mw_733, (List.forall_mem_cons.mpr ⟨mw_734, (List.forall_mem_cons.mpr ⟨mw_39, (fun _ h => absurd h List.not_mem_nil)⟩)⟩)⟩)⟩), inT_wsX6_out⟩) (by decide +kernel)
set_option maxRecDepth 100000 in
theorem mw_432 : (.code yX5_card cX5_card 2 (some .int) : Cond) ∈ lw_tbl := List.mem_of_getElem? (i := 432) rfl
set_option maxRecDepth 100000 in
theorem mw_437 : (.methodLink RX0 34 yX0_forgetTallies : Cond) ∈ lw_tbl := List.mem_of_getElem? (i := 437) rfl
set_option maxRecDepth 100000 in
theorem mw_436 : (.code yX0_put cX0_put 3 (some .int) : Cond) ∈ lw_tbl := List.mem_of_getElem? (i := 436) rfl
set_option maxRecDepth 100000 in
theorem mw_435 : (.selects RX0 yX0_put yX0_put : Cond) ∈ lw_tbl := List.mem_of_getElem? (i := 435) rfl
set_option maxRecDepth 100000 in
theorem mw_434 : (.instanceMethod yX0_put : Cond) ∈ lw_tbl := List.mem_of_getElem? (i := 434) rfl
set_option maxRecDepth 100000 in
theorem mw_433 : (.methodLink RX5 141 yX0_put : Cond) ∈ lw_tbl := List.mem_of_getElem? (i := 433) rfl
set_option maxRecDepth 100000 in
theorem inT_wsX5_card : ∀ w ∈ wsX5_card, w ∈ lw_tbl := (List.forall_mem_cons.mpr ⟨mw_432, (List.forall_mem_append.mpr ⟨(List.forall_mem_append.mpr ⟨(List.forall_mem_cons.mpr ⟨mw_172, (List.forall_mem_cons.mpr ⟨mw_192, (List.forall_mem_cons.mpr ⟨mw_193, (List.forall_mem_cons.mpr ⟨mw_33, (List.forall_mem_cons.mpr ⟨mw_194, (List.forall_mem_cons.mpr ⟨mw_433, (List.forall_mem_cons.mpr ⟨mw_434, (List.forall_mem_cons.mpr ⟨mw_435, (List.forall_mem_cons.mpr ⟨mw_36, (List.forall_mem_cons.mpr ⟨mw_436, (List.forall_mem_cons.mpr ⟨mw_117, (List.forall_mem_cons.mpr ⟨mw_116, (List.forall_mem_cons.mpr ⟨mw_437, (List.forall_mem_cons.mpr ⟨mw_230, (List.forall_mem_cons.mpr ⟨mw_231, (List.forall_mem_cons.mpr ⟨mw_232, (List.forall_mem_cons.mpr ⟨mw_121, (fun _ h => absurd h List.not_mem_nil)⟩)⟩)⟩)⟩)⟩)⟩)⟩)⟩)⟩)⟩)⟩)⟩)⟩)⟩)⟩)⟩)⟩), inT_X5⟩), inT_X0⟩)⟩)
set_option maxRecDepth 100000 in
theorem mw_431 : (.selects RX5 yX5_card yX5_card : Cond) ∈ lw_tbl := List.mem_of_getElem? (i := 431) rfl
set_option maxRecDepth 100000 in
theorem mw_430 : (.instanceMethod yX5_card : Cond) ∈ lw_tbl := List.mem_of_getElem? (i := 430) rfl
set_option maxRecDepth 100000 in
theorem mw_429 : (.methodLink RL 74 yX5_card : Cond) ∈ lw_tbl := List.mem_of_getElem? (i := 429) rfl
set_option maxRecDepth 100000 in
theorem gT_X5_card : GoodIn lw_tbl (wsV RL 74 RX5 yX5_card wsX5_card) := goodIn_sub (List.forall_mem_append.mpr ⟨(List.forall_mem_cons.mpr ⟨mw_429, (List.forall_mem_cons.mpr ⟨mw_430, (List.forall_mem_cons.mpr ⟨mw_431, (List.forall_mem_cons.mpr ⟨mw_33, (fun _ h => absurd h List.not_mem_nil)⟩)⟩)⟩)⟩), inT_wsX5_card⟩) (by decide +kernel)
set_option maxRecDepth 100000 in
theorem mw_739 : (.code yX6_card cX6_card 2 (some .int) : Cond) ∈ lw_tbl := List.mem_of_getElem? (i := 739) rfl
set_option maxRecDepth 100000 in
theorem inT_wsX6_card : ∀ w ∈ wsX6_card, w ∈ lw_tbl := (List.forall_mem_cons.mpr ⟨mw_739, (List.forall_mem_append.mpr ⟨(List.forall_mem_cons.mpr ⟨mw_595, (List.forall_mem_cons.mpr ⟨mw_534, (List.forall_mem_cons.mpr ⟨mw_535, (List.forall_mem_cons.mpr ⟨mw_596, (List.forall_mem_cons.mpr ⟨mw_597, (List.forall_mem_cons.mpr ⟨mw_39, (List.forall_mem_cons.mpr ⟨mw_598, (fun _ h => absurd h List.not_mem_nil)⟩)⟩)⟩)⟩)⟩)⟩)⟩), inT_X6⟩)⟩)
set_option maxRecDepth 100000 in
theorem mw_738 : (.selects RX6 yX6_card yX6_card : Cond) ∈ lw_tbl := List.mem_of_getElem? (i := 738) rfl
set_option maxRecDepth 100000 in
theorem mw_737 : (.instanceMethod yX6_card : Cond) ∈ lw_tbl := List.mem_of_getElem? (i := 737) rfl
set_option maxRecDepth 100000 in
theorem mw_736 : (.methodLink RL 77 yX6_card : Cond) ∈ lw_tbl := List.mem_of_getElem? (i := 736) rfl
set_option maxRecDepth 100000 in
theorem gT_X6_card : GoodIn lw_tbl (wsV RL 77 RX6 yX6_card wsX6_card) := goodIn_sub (List.forall_mem_append.mpr ⟨(List.forall_mem_cons.mpr ⟨mw_736, (List.forall_mem_cons.mpr ⟨mw_737, (List.forall_mem_cons.mpr ⟨mw_738, (List.forall_mem_cons.mpr ⟨mw_39, (fun _ h => absurd h List.not_mem_nil)⟩)⟩)⟩)⟩), inT_wsX6_card⟩) (by decide +kernel)
set_option maxRecDepth 100000 in
theorem mw_441 : (.code yX5_empty cX5_empty 1 (some .int) : Cond) ∈ lw_tbl := List.mem_of_getElem? (i := 441) rfl
set_option maxRecDepth 100000 in
theorem mw_445 : (.code yX0_clear cX0_clear 2 (some .int) : Cond) ∈ lw_tbl := List.mem_of_getElem? (i := 445) rfl
set_option maxRecDepth 100000 in
theorem mw_444 : (.selects RX0 yX0_clear yX0_clear : Cond) ∈ lw_tbl := List.mem_of_getElem? (i := 444) rfl
set_option maxRecDepth 100000 in
theorem mw_443 : (.instanceMethod yX0_clear : Cond) ∈ lw_tbl := List.mem_of_getElem? (i := 443) rfl
set_option maxRecDepth 100000 in
theorem mw_442 : (.methodLink RX5 144 yX0_clear : Cond) ∈ lw_tbl := List.mem_of_getElem? (i := 442) rfl
set_option maxRecDepth 100000 in
theorem inT_wsX5_empty : ∀ w ∈ wsX5_empty, w ∈ lw_tbl := (List.forall_mem_cons.mpr ⟨mw_441, (List.forall_mem_append.mpr ⟨(List.forall_mem_append.mpr ⟨(List.forall_mem_cons.mpr ⟨mw_172, (List.forall_mem_cons.mpr ⟨mw_442, (List.forall_mem_cons.mpr ⟨mw_443, (List.forall_mem_cons.mpr ⟨mw_444, (List.forall_mem_cons.mpr ⟨mw_36, (List.forall_mem_cons.mpr ⟨mw_445, (List.forall_mem_cons.mpr ⟨mw_117, (List.forall_mem_cons.mpr ⟨mw_437, (List.forall_mem_cons.mpr ⟨mw_230, (List.forall_mem_cons.mpr ⟨mw_231, (List.forall_mem_cons.mpr ⟨mw_232, (List.forall_mem_cons.mpr ⟨mw_121, (fun _ h => absurd h List.not_mem_nil)⟩)⟩)⟩)⟩)⟩)⟩)⟩)⟩)⟩)⟩)⟩)⟩), inT_X5⟩), inT_X0⟩)⟩)
set_option maxRecDepth 100000 in
theorem mw_440 : (.selects RX5 yX5_empty yX5_empty : Cond) ∈ lw_tbl := List.mem_of_getElem? (i := 440) rfl
set_option maxRecDepth 100000 in
theorem mw_439 : (.instanceMethod yX5_empty : Cond) ∈ lw_tbl := List.mem_of_getElem? (i := 439) rfl
set_option maxRecDepth 100000 in
theorem mw_438 : (.methodLink RL 78 yX5_empty : Cond) ∈ lw_tbl := List.mem_of_getElem? (i := 438) rfl
set_option maxRecDepth 100000 in
theorem gT_X5_empty : GoodIn lw_tbl (wsV RL 78 RX5 yX5_empty wsX5_empty) := goodIn_sub (List.forall_mem_append.mpr ⟨(List.forall_mem_cons.mpr ⟨mw_438, (List.forall_mem_cons.mpr ⟨mw_439, (List.forall_mem_cons.mpr ⟨mw_440, (List.forall_mem_cons.mpr ⟨mw_33, (fun _ h => absurd h List.not_mem_nil)⟩)⟩)⟩)⟩), inT_wsX5_empty⟩) (by decide +kernel)
set_option maxRecDepth 100000 in
theorem mw_743 : (.code yX6_empty cX6_empty 2 (some .int) : Cond) ∈ lw_tbl := List.mem_of_getElem? (i := 743) rfl
set_option maxRecDepth 100000 in
theorem inT_wsX6_empty : ∀ w ∈ wsX6_empty, w ∈ lw_tbl := (List.forall_mem_cons.mpr ⟨mw_743, (List.forall_mem_append.mpr ⟨(List.forall_mem_cons.mpr ⟨mw_534, (fun _ h => absurd h List.not_mem_nil)⟩), inT_X6⟩)⟩)
set_option maxRecDepth 100000 in
theorem mw_742 : (.selects RX6 yX6_empty yX6_empty : Cond) ∈ lw_tbl := List.mem_of_getElem? (i := 742) rfl
set_option maxRecDepth 100000 in
theorem mw_741 : (.instanceMethod yX6_empty : Cond) ∈ lw_tbl := List.mem_of_getElem? (i := 741) rfl
set_option maxRecDepth 100000 in
theorem mw_740 : (.methodLink RL 81 yX6_empty : Cond) ∈ lw_tbl := List.mem_of_getElem? (i := 740) rfl
set_option maxRecDepth 100000 in
theorem gT_X6_empty : GoodIn lw_tbl (wsV RL 81 RX6 yX6_empty wsX6_empty) := goodIn_sub (List.forall_mem_append.mpr ⟨(List.forall_mem_cons.mpr ⟨mw_740, (List.forall_mem_cons.mpr ⟨mw_741, (List.forall_mem_cons.mpr ⟨mw_742, (List.forall_mem_cons.mpr ⟨mw_39, (fun _ h => absurd h List.not_mem_nil)⟩)⟩)⟩)⟩), inT_wsX6_empty⟩) (by decide +kernel)
set_option maxRecDepth 100000 in
theorem mw_449 : (.code yX5_draws cX5_draws 7 (some .int) : Cond) ∈ lw_tbl := List.mem_of_getElem? (i := 449) rfl
set_option maxRecDepth 100000 in
theorem mw_7 : (.selects RX0 yX0_countDraw yX0_countDraw : Cond) ∈ lw_tbl := List.mem_of_getElem? (i := 7) rfl
set_option maxRecDepth 100000 in
theorem mw_457 : (.instanceMethod yX0_countDraw : Cond) ∈ lw_tbl := List.mem_of_getElem? (i := 457) rfl
set_option maxRecDepth 100000 in
theorem mw_455 : (.methodLink RX0 43 yX0_countDraw : Cond) ∈ lw_tbl := List.mem_of_getElem? (i := 455) rfl
set_option maxRecDepth 100000 in
theorem mw_454 : (.methodLink RX0 37 yJ6_bitCount_0f7a4 : Cond) ∈ lw_tbl := List.mem_of_getElem? (i := 454) rfl
set_option maxRecDepth 100000 in
theorem mw_453 : (.code yX0_countDraws cX0_countDraws 3 none : Cond) ∈ lw_tbl := List.mem_of_getElem? (i := 453) rfl
set_option maxRecDepth 100000 in
theorem mw_452 : (.selects RX0 yX0_countDraws yX0_countDraws : Cond) ∈ lw_tbl := List.mem_of_getElem? (i := 452) rfl
set_option maxRecDepth 100000 in
theorem mw_451 : (.instanceMethod yX0_countDraws : Cond) ∈ lw_tbl := List.mem_of_getElem? (i := 451) rfl
set_option maxRecDepth 100000 in
theorem mw_450 : (.methodLink RX5 147 yX0_countDraws : Cond) ∈ lw_tbl := List.mem_of_getElem? (i := 450) rfl
set_option maxRecDepth 100000 in
theorem inT_wsX5_draws_r1 : ∀ w ∈ wsX5_draws_r1, w ∈ lw_tbl := (List.forall_mem_cons.mpr ⟨mw_172, (List.forall_mem_cons.mpr ⟨mw_192, (List.forall_mem_cons.mpr ⟨mw_193, (List.forall_mem_cons.mpr ⟨mw_33, (List.forall_mem_cons.mpr ⟨mw_194, (List.forall_mem_cons.mpr ⟨mw_450, (List.forall_mem_cons.mpr ⟨mw_451, (List.forall_mem_cons.mpr ⟨mw_452, (List.forall_mem_cons.mpr ⟨mw_36, (List.forall_mem_cons.mpr ⟨mw_453, (List.forall_mem_cons.mpr ⟨mw_121, (List.forall_mem_cons.mpr ⟨mw_120, (List.forall_mem_cons.mpr ⟨mw_119, (List.forall_mem_cons.mpr ⟨mw_117, (List.forall_mem_cons.mpr ⟨mw_454, (List.forall_mem_cons.mpr ⟨mw_337, (List.forall_mem_cons.mpr ⟨mw_41, (List.forall_mem_cons.mpr ⟨mw_338, (List.forall_mem_cons.mpr ⟨mw_339, (List.forall_mem_cons.mpr ⟨mw_340, (List.forall_mem_cons.mpr ⟨mw_341, (List.forall_mem_cons.mpr ⟨mw_455, (List.forall_mem_cons.mpr ⟨mw_457, (List.forall_mem_cons.mpr ⟨mw_7, (fun _ h => absurd h List.not_mem_nil)⟩)⟩)⟩)⟩)⟩)⟩)⟩)⟩)⟩)⟩)⟩)⟩)⟩)⟩)⟩)⟩)⟩)⟩)⟩)⟩)⟩)⟩)⟩)⟩)
set_option maxRecDepth 100000 in
theorem mw_461 : (.methodLink RX0 57 yX1_refresh : Cond) ∈ lw_tbl := List.mem_of_getElem? (i := 461) rfl
set_option maxRecDepth 100000 in
theorem mw_460 : (.methodLink RX0 53 yX1_shorten : Cond) ∈ lw_tbl := List.mem_of_getElem? (i := 460) rfl
set_option maxRecDepth 100000 in
theorem mw_459 : (.methodLink RX0 47 yX1_place : Cond) ∈ lw_tbl := List.mem_of_getElem? (i := 459) rfl
set_option maxRecDepth 100000 in
theorem mw_458 : (.code yX0_countDraw cX0_countDraw 5 none : Cond) ∈ lw_tbl := List.mem_of_getElem? (i := 458) rfl
set_option maxRecDepth 100000 in
theorem inT_wsX5_draws_r2 : ∀ w ∈ wsX5_draws_r2, w ∈ lw_tbl := (List.forall_mem_cons.mpr ⟨mw_458, (List.forall_mem_cons.mpr ⟨mw_115, (List.forall_mem_cons.mpr ⟨mw_116, (List.forall_mem_cons.mpr ⟨mw_459, (List.forall_mem_cons.mpr ⟨mw_196, (List.forall_mem_cons.mpr ⟨mw_197, (List.forall_mem_cons.mpr ⟨mw_35, (List.forall_mem_cons.mpr ⟨mw_198, (List.forall_mem_cons.mpr ⟨mw_86, (List.forall_mem_cons.mpr ⟨mw_81, (List.forall_mem_cons.mpr ⟨mw_199, (List.forall_mem_cons.mpr ⟨mw_200, (List.forall_mem_cons.mpr ⟨mw_40, (List.forall_mem_cons.mpr ⟨mw_201, (List.forall_mem_cons.mpr ⟨mw_88, (List.forall_mem_cons.mpr ⟨mw_460, (List.forall_mem_cons.mpr ⟨mw_215, (List.forall_mem_cons.mpr ⟨mw_216, (List.forall_mem_cons.mpr ⟨mw_217, (List.forall_mem_cons.mpr ⟨mw_218, (List.forall_mem_cons.mpr ⟨mw_219, (List.forall_mem_cons.mpr ⟨mw_220, (List.forall_mem_cons.mpr ⟨mw_461, (List.forall_mem_cons.mpr ⟨mw_255, (fun _ h => absurd h List.not_mem_nil)⟩)⟩)⟩)⟩)⟩)⟩)⟩)⟩)⟩)⟩)⟩)⟩)⟩)⟩)⟩)⟩)⟩)⟩)⟩)⟩)⟩)⟩)⟩)⟩)
set_option maxRecDepth 100000 in
theorem inT_wsX5_draws_r3 : ∀ w ∈ wsX5_draws_r3, w ∈ lw_tbl := (List.forall_mem_cons.mpr ⟨mw_256, (List.forall_mem_cons.mpr ⟨mw_257, (List.forall_mem_cons.mpr ⟨mw_84, (List.forall_mem_cons.mpr ⟨mw_258, (List.forall_mem_cons.mpr ⟨mw_260, (List.forall_mem_cons.mpr ⟨mw_1, (List.forall_mem_cons.mpr ⟨mw_261, (List.forall_mem_cons.mpr ⟨mw_83, (List.forall_mem_cons.mpr ⟨mw_82, (List.forall_mem_cons.mpr ⟨mw_85, (List.forall_mem_cons.mpr ⟨mw_262, (List.forall_mem_cons.mpr ⟨mw_250, (List.forall_mem_cons.mpr ⟨mw_251, (List.forall_mem_cons.mpr ⟨mw_252, (List.forall_mem_cons.mpr ⟨mw_263, (List.forall_mem_cons.mpr ⟨mw_265, (List.forall_mem_cons.mpr ⟨mw_2, (List.forall_mem_cons.mpr ⟨mw_266, (List.forall_mem_cons.mpr ⟨mw_267, (List.forall_mem_cons.mpr ⟨mw_269, (List.forall_mem_cons.mpr ⟨mw_3, (List.forall_mem_cons.mpr ⟨mw_270, (List.forall_mem_cons.mpr ⟨mw_271, (List.forall_mem_cons.mpr ⟨mw_273, (fun _ h => absurd h List.not_mem_nil)⟩)⟩)⟩)⟩)⟩)⟩)⟩)⟩)⟩)⟩)⟩)⟩)⟩)⟩)⟩)⟩)⟩)⟩)⟩)⟩)⟩)⟩)⟩)⟩)
set_option maxRecDepth 100000 in
theorem mw_470 : (.code yX0_drawsReaching cX0_drawsReaching 3 (some .int) : Cond) ∈ lw_tbl := List.mem_of_getElem? (i := 470) rfl
set_option maxRecDepth 100000 in
theorem mw_469 : (.selects RX0 yX0_drawsReaching yX0_drawsReaching : Cond) ∈ lw_tbl := List.mem_of_getElem? (i := 469) rfl
set_option maxRecDepth 100000 in
theorem mw_468 : (.instanceMethod yX0_drawsReaching : Cond) ∈ lw_tbl := List.mem_of_getElem? (i := 468) rfl
set_option maxRecDepth 100000 in
theorem mw_467 : (.methodLink RX5 153 yX0_drawsReaching : Cond) ∈ lw_tbl := List.mem_of_getElem? (i := 467) rfl
set_option maxRecDepth 100000 in
theorem mw_466 : (.code yX0_drawsOf cX0_drawsOf 2 (some .int) : Cond) ∈ lw_tbl := List.mem_of_getElem? (i := 466) rfl
set_option maxRecDepth 100000 in
theorem mw_465 : (.selects RX0 yX0_drawsOf yX0_drawsOf : Cond) ∈ lw_tbl := List.mem_of_getElem? (i := 465) rfl
set_option maxRecDepth 100000 in
theorem mw_464 : (.instanceMethod yX0_drawsOf : Cond) ∈ lw_tbl := List.mem_of_getElem? (i := 464) rfl
set_option maxRecDepth 100000 in
theorem mw_463 : (.methodLink RX5 150 yX0_drawsOf : Cond) ∈ lw_tbl := List.mem_of_getElem? (i := 463) rfl
set_option maxRecDepth 100000 in
theorem mw_462 : (.methodLink RX0 60 yX1_reaches : Cond) ∈ lw_tbl := List.mem_of_getElem? (i := 462) rfl
set_option maxRecDepth 100000 in
theorem inT_wsX5_draws_r4 : ∀ w ∈ wsX5_draws_r4, w ∈ lw_tbl := (List.forall_mem_cons.mpr ⟨mw_4, (List.forall_mem_cons.mpr ⟨mw_274, (List.forall_mem_cons.mpr ⟨mw_80, (List.forall_mem_cons.mpr ⟨mw_279, (List.forall_mem_cons.mpr ⟨mw_280, (List.forall_mem_cons.mpr ⟨mw_281, (List.forall_mem_cons.mpr ⟨mw_275, (List.forall_mem_cons.mpr ⟨mw_276, (List.forall_mem_cons.mpr ⟨mw_277, (List.forall_mem_cons.mpr ⟨mw_34, (List.forall_mem_cons.mpr ⟨mw_278, (List.forall_mem_cons.mpr ⟨mw_60, (List.forall_mem_cons.mpr ⟨mw_462, (List.forall_mem_cons.mpr ⟨mw_308, (List.forall_mem_cons.mpr ⟨mw_309, (List.forall_mem_cons.mpr ⟨mw_310, (List.forall_mem_cons.mpr ⟨mw_463, (List.forall_mem_cons.mpr ⟨mw_464, (List.forall_mem_cons.mpr ⟨mw_465, (List.forall_mem_cons.mpr ⟨mw_466, (List.forall_mem_cons.mpr ⟨mw_467, (List.forall_mem_cons.mpr ⟨mw_468, (List.forall_mem_cons.mpr ⟨mw_469, (List.forall_mem_cons.mpr ⟨mw_470, (fun _ h => absurd h List.not_mem_nil)⟩)⟩)⟩)⟩)⟩)⟩)⟩)⟩)⟩)⟩)⟩)⟩)⟩)⟩)⟩)⟩)⟩)⟩)⟩)⟩)⟩)⟩)⟩)⟩)
set_option maxRecDepth 100000 in
theorem mw_474 : (.methodLink RX5 195 Lib.Math.min.name : Cond) ∈ lw_tbl := List.mem_of_getElem? (i := 474) rfl
set_option maxRecDepth 100000 in
theorem mw_473 : (.code yX5_greatestCommonDivisor cX5_greatestCommonDivisor 4 (some .int) : Cond) ∈ lw_tbl := List.mem_of_getElem? (i := 473) rfl
set_option maxRecDepth 100000 in
theorem mw_472 : (.static yX5_greatestCommonDivisor : Cond) ∈ lw_tbl := List.mem_of_getElem? (i := 472) rfl
set_option maxRecDepth 100000 in
theorem mw_471 : (.methodLink RX5 156 yX5_greatestCommonDivisor : Cond) ∈ lw_tbl := List.mem_of_getElem? (i := 471) rfl
set_option maxRecDepth 100000 in
theorem inT_wsX5_draws_r5 : ∀ w ∈ wsX5_draws_r5, w ∈ lw_tbl := (List.forall_mem_cons.mpr ⟨mw_471, (List.forall_mem_cons.mpr ⟨mw_472, (List.forall_mem_cons.mpr ⟨mw_473, (List.forall_mem_cons.mpr ⟨mw_474, (fun _ h => absurd h List.not_mem_nil)⟩)⟩)⟩)⟩)
set_option maxRecDepth 100000 in
theorem inT_wsX5_draws : ∀ w ∈ wsX5_draws, w ∈ lw_tbl := (List.forall_mem_cons.mpr ⟨mw_449, (List.forall_mem_append.mpr ⟨(List.forall_mem_append.mpr ⟨(List.forall_mem_append.mpr ⟨(List.forall_mem_append.mpr ⟨(List.forall_mem_append.mpr ⟨inT_wsX5_draws_r1, (List.forall_mem_append.mpr ⟨inT_wsX5_draws_r2, (List.forall_mem_append.mpr ⟨inT_wsX5_draws_r3, (List.forall_mem_append.mpr ⟨inT_wsX5_draws_r4, inT_wsX5_draws_r5⟩)⟩)⟩)⟩), inT_X5⟩), inT_X0⟩), inT_X1⟩), inT_X3⟩)⟩)
set_option maxRecDepth 100000 in
theorem mw_448 : (.selects RX5 yX5_draws yX5_draws : Cond) ∈ lw_tbl := List.mem_of_getElem? (i := 448) rfl
set_option maxRecDepth 100000 in
theorem mw_447 : (.instanceMethod yX5_draws : Cond) ∈ lw_tbl := List.mem_of_getElem? (i := 447) rfl
set_option maxRecDepth 100000 in
theorem mw_446 : (.methodLink RL 82 yX5_draws : Cond) ∈ lw_tbl := List.mem_of_getElem? (i := 446) rfl
set_option maxRecDepth 100000 in
theorem gT_X5_draws : GoodIn lw_tbl (wsV RL 82 RX5 yX5_draws wsX5_draws) := goodIn_sub (List.forall_mem_append.mpr ⟨(List.forall_mem_cons.mpr ⟨mw_446, (List.forall_mem_cons.mpr ⟨mw_447, (List.forall_mem_cons.mpr ⟨mw_448, (List.forall_mem_cons.mpr ⟨mw_33, (fun _ h => absurd h List.not_mem_nil)⟩)⟩)⟩)⟩), inT_wsX5_draws⟩) (by decide +kernel)
set_option maxRecDepth 100000 in
theorem mw_747 : (.code yX6_draws cX6_draws 7 (some .int) : Cond) ∈ lw_tbl := List.mem_of_getElem? (i := 747) rfl
set_option maxRecDepth 100000 in
theorem mw_752 : (.code yX6_drawn cX6_drawn 3 none : Cond) ∈ lw_tbl := List.mem_of_getElem? (i := 752) rfl
set_option maxRecDepth 100000 in
theorem mw_30 : (.selects RX6 yX6_drawn yX6_drawn : Cond) ∈ lw_tbl := List.mem_of_getElem? (i := 30) rfl
set_option maxRecDepth 100000 in
theorem mw_751 : (.instanceMethod yX6_drawn : Cond) ∈ lw_tbl := List.mem_of_getElem? (i := 751) rfl
set_option maxRecDepth 100000 in
theorem mw_749 : (.methodLink RX6 166 yX6_drawn : Cond) ∈ lw_tbl := List.mem_of_getElem? (i := 749) rfl
set_option maxRecDepth 100000 in
theorem mw_748 : (.constantLong RX6 164 (4) : Cond) ∈ lw_tbl := List.mem_of_getElem? (i := 748) rfl
set_option maxRecDepth 100000 in
theorem inT_wsX6_draws_r1 : ∀ w ∈ wsX6_draws_r1, w ∈ lw_tbl := (List.forall_mem_cons.mpr ⟨mw_748, (List.forall_mem_cons.mpr ⟨mw_612, (List.forall_mem_cons.mpr ⟨mw_688, (List.forall_mem_cons.mpr ⟨mw_534, (List.forall_mem_cons.mpr ⟨mw_596, (List.forall_mem_cons.mpr ⟨mw_597, (List.forall_mem_cons.mpr ⟨mw_39, (List.forall_mem_cons.mpr ⟨mw_598, (List.forall_mem_cons.mpr ⟨mw_637, (List.forall_mem_cons.mpr ⟨mw_638, (List.forall_mem_cons.mpr ⟨mw_639, (List.forall_mem_cons.mpr ⟨mw_749, (List.forall_mem_cons.mpr ⟨mw_751, (List.forall_mem_cons.mpr ⟨mw_30, (List.forall_mem_cons.mpr ⟨mw_752, (List.forall_mem_cons.mpr ⟨mw_539, (List.forall_mem_cons.mpr ⟨mw_538, (List.forall_mem_cons.mpr ⟨mw_535, (List.forall_mem_cons.mpr ⟨mw_633, (List.forall_mem_cons.mpr ⟨mw_635, (List.forall_mem_cons.mpr ⟨mw_14, (List.forall_mem_cons.mpr ⟨mw_636, (List.forall_mem_cons.mpr ⟨mw_540, (List.forall_mem_cons.mpr ⟨mw_543, (fun _ h => absurd h List.not_mem_nil)⟩)⟩)⟩)⟩)⟩)⟩)⟩)⟩)⟩)⟩)⟩)⟩)⟩)⟩)⟩)⟩)⟩)⟩)⟩)⟩)⟩)⟩)⟩)⟩)
set_option maxRecDepth 100000 in
theorem inT_wsX6_draws_r2 : ∀ w ∈ wsX6_draws_r2, w ∈ lw_tbl := (List.forall_mem_cons.mpr ⟨mw_640, (List.forall_mem_cons.mpr ⟨mw_642, (List.forall_mem_cons.mpr ⟨mw_15, (List.forall_mem_cons.mpr ⟨mw_643, (List.forall_mem_cons.mpr ⟨mw_541, (List.forall_mem_cons.mpr ⟨mw_542, (List.forall_mem_cons.mpr ⟨mw_644, (List.forall_mem_cons.mpr ⟨mw_646, (List.forall_mem_cons.mpr ⟨mw_16, (List.forall_mem_cons.mpr ⟨mw_647, (List.forall_mem_cons.mpr ⟨mw_648, (List.forall_mem_cons.mpr ⟨mw_650, (List.forall_mem_cons.mpr ⟨mw_17, (List.forall_mem_cons.mpr ⟨mw_651, (List.forall_mem_cons.mpr ⟨mw_532, (List.forall_mem_cons.mpr ⟨mw_652, (List.forall_mem_cons.mpr ⟨mw_654, (List.forall_mem_cons.mpr ⟨mw_18, (List.forall_mem_cons.mpr ⟨mw_655, (List.forall_mem_cons.mpr ⟨mw_533, (List.forall_mem_cons.mpr ⟨mw_672, (List.forall_mem_cons.mpr ⟨mw_674, (List.forall_mem_cons.mpr ⟨mw_21, (List.forall_mem_cons.mpr ⟨mw_675, (fun _ h => absurd h List.not_mem_nil)⟩)⟩)⟩)⟩)⟩)⟩)⟩)⟩)⟩)⟩)⟩)⟩)⟩)⟩)⟩)⟩)⟩)⟩)⟩)⟩)⟩)⟩)⟩)⟩)
set_option maxRecDepth 100000 in
theorem mw_755 : (.code yX6_common cX6_common 5 (some .int) : Cond) ∈ lw_tbl := List.mem_of_getElem? (i := 755) rfl
set_option maxRecDepth 100000 in
theorem mw_754 : (.static yX6_common : Cond) ∈ lw_tbl := List.mem_of_getElem? (i := 754) rfl
set_option maxRecDepth 100000 in
theorem mw_753 : (.methodLink RX6 169 yX6_common : Cond) ∈ lw_tbl := List.mem_of_getElem? (i := 753) rfl
set_option maxRecDepth 100000 in
theorem inT_wsX6_draws_r3 : ∀ w ∈ wsX6_draws_r3, w ∈ lw_tbl := (List.forall_mem_cons.mpr ⟨mw_660, (List.forall_mem_cons.mpr ⟨mw_662, (List.forall_mem_cons.mpr ⟨mw_19, (List.forall_mem_cons.mpr ⟨mw_663, (List.forall_mem_cons.mpr ⟨mw_753, (List.forall_mem_cons.mpr ⟨mw_754, (List.forall_mem_cons.mpr ⟨mw_755, (fun _ h => absurd h List.not_mem_nil)⟩)⟩)⟩)⟩)⟩)⟩)⟩)
set_option maxRecDepth 100000 in
theorem inT_wsX6_draws : ∀ w ∈ wsX6_draws, w ∈ lw_tbl := (List.forall_mem_cons.mpr ⟨mw_747, (List.forall_mem_append.mpr ⟨(List.forall_mem_append.mpr ⟨inT_wsX6_draws_r1, (List.forall_mem_append.mpr ⟨inT_wsX6_draws_r2, inT_wsX6_draws_r3⟩)⟩), inT_X6⟩)⟩)
set_option maxRecDepth 100000 in
theorem mw_746 : (.selects RX6 yX6_draws yX6_draws : Cond) ∈ lw_tbl := List.mem_of_getElem? (i := 746) rfl
set_option maxRecDepth 100000 in
theorem mw_745 : (.instanceMethod yX6_draws : Cond) ∈ lw_tbl := List.mem_of_getElem? (i := 745) rfl
set_option maxRecDepth 100000 in
theorem mw_744 : (.methodLink RL 86 yX6_draws : Cond) ∈ lw_tbl := List.mem_of_getElem? (i := 744) rfl
set_option maxRecDepth 100000 in
theorem gT_X6_draws : GoodIn lw_tbl (wsV RL 86 RX6 yX6_draws wsX6_draws) := goodIn_sub (List.forall_mem_append.mpr ⟨(List.forall_mem_cons.mpr ⟨mw_744, (List.forall_mem_cons.mpr ⟨mw_745, (List.forall_mem_cons.mpr ⟨mw_746, (List.forall_mem_cons.mpr ⟨mw_39, (fun _ h => absurd h List.not_mem_nil)⟩)⟩)⟩)⟩), inT_wsX6_draws⟩) (by decide +kernel)
set_option maxRecDepth 100000 in
theorem mw_478 : (.code yX5_most cX5_most 5 (some .int) : Cond) ∈ lw_tbl := List.mem_of_getElem? (i := 478) rfl
set_option maxRecDepth 100000 in
theorem inT_wsX5_most_r1 : ∀ w ∈ wsX5_most_r1, w ∈ lw_tbl := (List.forall_mem_cons.mpr ⟨mw_172, (List.forall_mem_cons.mpr ⟨mw_192, (List.forall_mem_cons.mpr ⟨mw_193, (List.forall_mem_cons.mpr ⟨mw_33, (List.forall_mem_cons.mpr ⟨mw_194, (List.forall_mem_cons.mpr ⟨mw_450, (List.forall_mem_cons.mpr ⟨mw_451, (List.forall_mem_cons.mpr ⟨mw_452, (List.forall_mem_cons.mpr ⟨mw_36, (List.forall_mem_cons.mpr ⟨mw_453, (List.forall_mem_cons.mpr ⟨mw_121, (List.forall_mem_cons.mpr ⟨mw_120, (List.forall_mem_cons.mpr ⟨mw_119, (List.forall_mem_cons.mpr ⟨mw_117, (List.forall_mem_cons.mpr ⟨mw_454, (List.forall_mem_cons.mpr ⟨mw_337, (List.forall_mem_cons.mpr ⟨mw_41, (List.forall_mem_cons.mpr ⟨mw_338, (List.forall_mem_cons.mpr ⟨mw_339, (List.forall_mem_cons.mpr ⟨mw_340, (List.forall_mem_cons.mpr ⟨mw_341, (List.forall_mem_cons.mpr ⟨mw_455, (List.forall_mem_cons.mpr ⟨mw_457, (List.forall_mem_cons.mpr ⟨mw_7, (fun _ h => absurd h List.not_mem_nil)⟩)⟩)⟩)⟩)⟩)⟩)⟩)⟩)⟩)⟩)⟩)⟩)⟩)⟩)⟩)⟩)⟩)⟩)⟩)⟩)⟩)⟩)⟩)⟩)
set_option maxRecDepth 100000 in
theorem inT_wsX5_most_r2 : ∀ w ∈ wsX5_most_r2, w ∈ lw_tbl := (List.forall_mem_cons.mpr ⟨mw_458, (List.forall_mem_cons.mpr ⟨mw_115, (List.forall_mem_cons.mpr ⟨mw_116, (List.forall_mem_cons.mpr ⟨mw_459, (List.forall_mem_cons.mpr ⟨mw_196, (List.forall_mem_cons.mpr ⟨mw_197, (List.forall_mem_cons.mpr ⟨mw_35, (List.forall_mem_cons.mpr ⟨mw_198, (List.forall_mem_cons.mpr ⟨mw_86, (List.forall_mem_cons.mpr ⟨mw_81, (List.forall_mem_cons.mpr ⟨mw_199, (List.forall_mem_cons.mpr ⟨mw_200, (List.forall_mem_cons.mpr ⟨mw_40, (List.forall_mem_cons.mpr ⟨mw_201, (List.forall_mem_cons.mpr ⟨mw_88, (List.forall_mem_cons.mpr ⟨mw_460, (List.forall_mem_cons.mpr ⟨mw_215, (List.forall_mem_cons.mpr ⟨mw_216, (List.forall_mem_cons.mpr ⟨mw_217, (List.forall_mem_cons.mpr ⟨mw_218, (List.forall_mem_cons.mpr ⟨mw_219, (List.forall_mem_cons.mpr ⟨mw_220, (List.forall_mem_cons.mpr ⟨mw_461, (List.forall_mem_cons.mpr ⟨mw_255, (fun _ h => absurd h List.not_mem_nil)⟩)⟩)⟩)⟩)⟩)⟩)⟩)⟩)⟩)⟩)⟩)⟩)⟩)⟩)⟩)⟩)⟩)⟩)⟩)⟩)⟩)⟩)⟩)⟩)
set_option maxRecDepth 100000 in
theorem inT_wsX5_most_r3 : ∀ w ∈ wsX5_most_r3, w ∈ lw_tbl := (List.forall_mem_cons.mpr ⟨mw_256, (List.forall_mem_cons.mpr ⟨mw_257, (List.forall_mem_cons.mpr ⟨mw_84, (List.forall_mem_cons.mpr ⟨mw_258, (List.forall_mem_cons.mpr ⟨mw_260, (List.forall_mem_cons.mpr ⟨mw_1, (List.forall_mem_cons.mpr ⟨mw_261, (List.forall_mem_cons.mpr ⟨mw_83, (List.forall_mem_cons.mpr ⟨mw_82, (List.forall_mem_cons.mpr ⟨mw_85, (List.forall_mem_cons.mpr ⟨mw_262, (List.forall_mem_cons.mpr ⟨mw_250, (List.forall_mem_cons.mpr ⟨mw_251, (List.forall_mem_cons.mpr ⟨mw_252, (List.forall_mem_cons.mpr ⟨mw_263, (List.forall_mem_cons.mpr ⟨mw_265, (List.forall_mem_cons.mpr ⟨mw_2, (List.forall_mem_cons.mpr ⟨mw_266, (List.forall_mem_cons.mpr ⟨mw_267, (List.forall_mem_cons.mpr ⟨mw_269, (List.forall_mem_cons.mpr ⟨mw_3, (List.forall_mem_cons.mpr ⟨mw_270, (List.forall_mem_cons.mpr ⟨mw_271, (List.forall_mem_cons.mpr ⟨mw_273, (fun _ h => absurd h List.not_mem_nil)⟩)⟩)⟩)⟩)⟩)⟩)⟩)⟩)⟩)⟩)⟩)⟩)⟩)⟩)⟩)⟩)⟩)⟩)⟩)⟩)⟩)⟩)⟩)⟩)
set_option maxRecDepth 100000 in
theorem inT_wsX5_most_r4 : ∀ w ∈ wsX5_most_r4, w ∈ lw_tbl := (List.forall_mem_cons.mpr ⟨mw_4, (List.forall_mem_cons.mpr ⟨mw_274, (List.forall_mem_cons.mpr ⟨mw_80, (List.forall_mem_cons.mpr ⟨mw_279, (List.forall_mem_cons.mpr ⟨mw_280, (List.forall_mem_cons.mpr ⟨mw_281, (List.forall_mem_cons.mpr ⟨mw_275, (List.forall_mem_cons.mpr ⟨mw_276, (List.forall_mem_cons.mpr ⟨mw_277, (List.forall_mem_cons.mpr ⟨mw_34, (List.forall_mem_cons.mpr ⟨mw_278, (List.forall_mem_cons.mpr ⟨mw_60, (List.forall_mem_cons.mpr ⟨mw_462, (List.forall_mem_cons.mpr ⟨mw_308, (List.forall_mem_cons.mpr ⟨mw_309, (List.forall_mem_cons.mpr ⟨mw_310, (List.forall_mem_cons.mpr ⟨mw_467, (List.forall_mem_cons.mpr ⟨mw_468, (List.forall_mem_cons.mpr ⟨mw_469, (List.forall_mem_cons.mpr ⟨mw_470, (fun _ h => absurd h List.not_mem_nil)⟩)⟩)⟩)⟩)⟩)⟩)⟩)⟩)⟩)⟩)⟩)⟩)⟩)⟩)⟩)⟩)⟩)⟩)⟩)⟩)
set_option maxRecDepth 100000 in
theorem inT_wsX5_most : ∀ w ∈ wsX5_most, w ∈ lw_tbl := (List.forall_mem_cons.mpr ⟨mw_478, (List.forall_mem_append.mpr ⟨(List.forall_mem_append.mpr ⟨(List.forall_mem_append.mpr ⟨(List.forall_mem_append.mpr ⟨(List.forall_mem_append.mpr ⟨inT_wsX5_most_r1, (List.forall_mem_append.mpr ⟨inT_wsX5_most_r2, (List.forall_mem_append.mpr ⟨inT_wsX5_most_r3, inT_wsX5_most_r4⟩)⟩)⟩), inT_X5⟩), inT_X0⟩), inT_X1⟩), inT_X3⟩)⟩)
set_option maxRecDepth 100000 in
theorem mw_477 : (.selects RX5 yX5_most yX5_most : Cond) ∈ lw_tbl := List.mem_of_getElem? (i := 477) rfl
set_option maxRecDepth 100000 in
theorem mw_476 : (.instanceMethod yX5_most : Cond) ∈ lw_tbl := List.mem_of_getElem? (i := 476) rfl
set_option maxRecDepth 100000 in
theorem mw_475 : (.methodLink RL 87 yX5_most : Cond) ∈ lw_tbl := List.mem_of_getElem? (i := 475) rfl
set_option maxRecDepth 100000 in
theorem gT_X5_most : GoodIn lw_tbl (wsV RL 87 RX5 yX5_most wsX5_most) := goodIn_sub (List.forall_mem_append.mpr ⟨(List.forall_mem_cons.mpr ⟨mw_475, (List.forall_mem_cons.mpr ⟨mw_476, (List.forall_mem_cons.mpr ⟨mw_477, (List.forall_mem_cons.mpr ⟨mw_33, (fun _ h => absurd h List.not_mem_nil)⟩)⟩)⟩)⟩), inT_wsX5_most⟩) (by decide +kernel)
set_option maxRecDepth 100000 in
theorem mw_759 : (.code yX6_most cX6_most 5 (some .int) : Cond) ∈ lw_tbl := List.mem_of_getElem? (i := 759) rfl
set_option maxRecDepth 100000 in
theorem inT_wsX6_most_r1 : ∀ w ∈ wsX6_most_r1, w ∈ lw_tbl := (List.forall_mem_cons.mpr ⟨mw_748, (List.forall_mem_cons.mpr ⟨mw_547, (List.forall_mem_cons.mpr ⟨mw_534, (List.forall_mem_cons.mpr ⟨mw_596, (List.forall_mem_cons.mpr ⟨mw_597, (List.forall_mem_cons.mpr ⟨mw_39, (List.forall_mem_cons.mpr ⟨mw_598, (List.forall_mem_cons.mpr ⟨mw_637, (List.forall_mem_cons.mpr ⟨mw_638, (List.forall_mem_cons.mpr ⟨mw_639, (List.forall_mem_cons.mpr ⟨mw_749, (List.forall_mem_cons.mpr ⟨mw_751, (List.forall_mem_cons.mpr ⟨mw_30, (List.forall_mem_cons.mpr ⟨mw_752, (List.forall_mem_cons.mpr ⟨mw_539, (List.forall_mem_cons.mpr ⟨mw_538, (List.forall_mem_cons.mpr ⟨mw_535, (List.forall_mem_cons.mpr ⟨mw_633, (List.forall_mem_cons.mpr ⟨mw_635, (List.forall_mem_cons.mpr ⟨mw_14, (List.forall_mem_cons.mpr ⟨mw_636, (List.forall_mem_cons.mpr ⟨mw_540, (List.forall_mem_cons.mpr ⟨mw_543, (List.forall_mem_cons.mpr ⟨mw_640, (fun _ h => absurd h List.not_mem_nil)⟩)⟩)⟩)⟩)⟩)⟩)⟩)⟩)⟩)⟩)⟩)⟩)⟩)⟩)⟩)⟩)⟩)⟩)⟩)⟩)⟩)⟩)⟩)⟩)
set_option maxRecDepth 100000 in
theorem inT_wsX6_most_r2 : ∀ w ∈ wsX6_most_r2, w ∈ lw_tbl := (List.forall_mem_cons.mpr ⟨mw_642, (List.forall_mem_cons.mpr ⟨mw_15, (List.forall_mem_cons.mpr ⟨mw_643, (List.forall_mem_cons.mpr ⟨mw_541, (List.forall_mem_cons.mpr ⟨mw_542, (List.forall_mem_cons.mpr ⟨mw_644, (List.forall_mem_cons.mpr ⟨mw_646, (List.forall_mem_cons.mpr ⟨mw_16, (List.forall_mem_cons.mpr ⟨mw_647, (List.forall_mem_cons.mpr ⟨mw_648, (List.forall_mem_cons.mpr ⟨mw_650, (List.forall_mem_cons.mpr ⟨mw_17, (List.forall_mem_cons.mpr ⟨mw_651, (List.forall_mem_cons.mpr ⟨mw_532, (List.forall_mem_cons.mpr ⟨mw_652, (List.forall_mem_cons.mpr ⟨mw_654, (List.forall_mem_cons.mpr ⟨mw_18, (List.forall_mem_cons.mpr ⟨mw_655, (List.forall_mem_cons.mpr ⟨mw_533, (List.forall_mem_cons.mpr ⟨mw_672, (List.forall_mem_cons.mpr ⟨mw_674, (List.forall_mem_cons.mpr ⟨mw_21, (List.forall_mem_cons.mpr ⟨mw_675, (List.forall_mem_cons.mpr ⟨mw_660, (fun _ h => absurd h List.not_mem_nil)⟩)⟩)⟩)⟩)⟩)⟩)⟩)⟩)⟩)⟩)⟩)⟩)⟩)⟩)⟩)⟩)⟩)⟩)⟩)⟩)⟩)⟩)⟩)⟩)
set_option maxRecDepth 100000 in
theorem inT_wsX6_most_r3 : ∀ w ∈ wsX6_most_r3, w ∈ lw_tbl := (List.forall_mem_cons.mpr ⟨mw_662, (List.forall_mem_cons.mpr ⟨mw_19, (List.forall_mem_cons.mpr ⟨mw_663, (fun _ h => absurd h List.not_mem_nil)⟩)⟩)⟩)
set_option maxRecDepth 100000 in
theorem inT_wsX6_most : ∀ w ∈ wsX6_most, w ∈ lw_tbl := (List.forall_mem_cons.mpr ⟨mw_759, (List.forall_mem_append.mpr ⟨(List.forall_mem_append.mpr ⟨inT_wsX6_most_r1, (List.forall_mem_append.mpr ⟨inT_wsX6_most_r2, inT_wsX6_most_r3⟩)⟩), inT_X6⟩)⟩)
set_option maxRecDepth 100000 in
theorem mw_758 : (.selects RX6 yX6_most yX6_most : Cond) ∈ lw_tbl := List.mem_of_getElem? (i := 758) rfl
set_option maxRecDepth 100000 in
theorem mw_757 : (.instanceMethod yX6_most : Cond) ∈ lw_tbl := List.mem_of_getElem? (i := 757) rfl
set_option maxRecDepth 100000 in
theorem mw_756 : (.methodLink RL 90 yX6_most : Cond) ∈ lw_tbl := List.mem_of_getElem? (i := 756) rfl
set_option maxRecDepth 100000 in
theorem gT_X6_most : GoodIn lw_tbl (wsV RL 90 RX6 yX6_most wsX6_most) := goodIn_sub (List.forall_mem_append.mpr ⟨(List.forall_mem_cons.mpr ⟨mw_756, (List.forall_mem_cons.mpr ⟨mw_757, (List.forall_mem_cons.mpr ⟨mw_758, (List.forall_mem_cons.mpr ⟨mw_39, (fun _ h => absurd h List.not_mem_nil)⟩)⟩)⟩)⟩), inT_wsX6_most⟩) (by decide +kernel)
set_option maxRecDepth 100000 in
theorem mw_482 : (.code yX5_span cX5_span 4 (some .int) : Cond) ∈ lw_tbl := List.mem_of_getElem? (i := 482) rfl
set_option maxRecDepth 100000 in
theorem mw_493 : (.code yX5_isInSpan cX5_isInSpan 2 (some .boolean) : Cond) ∈ lw_tbl := List.mem_of_getElem? (i := 493) rfl
set_option maxRecDepth 100000 in
theorem mw_492 : (.static yX5_isInSpan : Cond) ∈ lw_tbl := List.mem_of_getElem? (i := 492) rfl
set_option maxRecDepth 100000 in
theorem mw_491 : (.methodLink RX5 204 yX5_isInSpan : Cond) ∈ lw_tbl := List.mem_of_getElem? (i := 491) rfl
set_option maxRecDepth 100000 in
theorem mw_490 : (.code yX5_spans cX5_spans 5 (some .boolean) : Cond) ∈ lw_tbl := List.mem_of_getElem? (i := 490) rfl
set_option maxRecDepth 100000 in
theorem mw_9 : (.selects RX5 yX5_spans yX5_spans : Cond) ∈ lw_tbl := List.mem_of_getElem? (i := 9) rfl
set_option maxRecDepth 100000 in
theorem mw_489 : (.instanceMethod yX5_spans : Cond) ∈ lw_tbl := List.mem_of_getElem? (i := 489) rfl
set_option maxRecDepth 100000 in
theorem mw_487 : (.methodLink RX5 200 yX5_spans : Cond) ∈ lw_tbl := List.mem_of_getElem? (i := 487) rfl
set_option maxRecDepth 100000 in
theorem mw_486 : (.code yX5_firstSpan cX5_firstSpan 4 (some .int) : Cond) ∈ lw_tbl := List.mem_of_getElem? (i := 486) rfl
set_option maxRecDepth 100000 in
theorem mw_8 : (.selects RX5 yX5_firstSpan yX5_firstSpan : Cond) ∈ lw_tbl := List.mem_of_getElem? (i := 8) rfl
set_option maxRecDepth 100000 in
theorem mw_485 : (.instanceMethod yX5_firstSpan : Cond) ∈ lw_tbl := List.mem_of_getElem? (i := 485) rfl
set_option maxRecDepth 100000 in
theorem mw_483 : (.methodLink RX5 159 yX5_firstSpan : Cond) ∈ lw_tbl := List.mem_of_getElem? (i := 483) rfl
set_option maxRecDepth 100000 in
theorem inT_wsX5_span_r1 : ∀ w ∈ wsX5_span_r1, w ∈ lw_tbl := (List.forall_mem_cons.mpr ⟨mw_192, (List.forall_mem_cons.mpr ⟨mw_193, (List.forall_mem_cons.mpr ⟨mw_33, (List.forall_mem_cons.mpr ⟨mw_194, (List.forall_mem_cons.mpr ⟨mw_483, (List.forall_mem_cons.mpr ⟨mw_485, (List.forall_mem_cons.mpr ⟨mw_8, (List.forall_mem_cons.mpr ⟨mw_486, (List.forall_mem_cons.mpr ⟨mw_342, (List.forall_mem_cons.mpr ⟨mw_337, (List.forall_mem_cons.mpr ⟨mw_41, (List.forall_mem_cons.mpr ⟨mw_338, (List.forall_mem_cons.mpr ⟨mw_339, (List.forall_mem_cons.mpr ⟨mw_340, (List.forall_mem_cons.mpr ⟨mw_341, (List.forall_mem_cons.mpr ⟨mw_487, (List.forall_mem_cons.mpr ⟨mw_489, (List.forall_mem_cons.mpr ⟨mw_9, (List.forall_mem_cons.mpr ⟨mw_490, (List.forall_mem_cons.mpr ⟨mw_171, (List.forall_mem_cons.mpr ⟨mw_491, (List.forall_mem_cons.mpr ⟨mw_492, (List.forall_mem_cons.mpr ⟨mw_493, (List.forall_mem_cons.mpr ⟨mw_195, (fun _ h => absurd h List.not_mem_nil)⟩)⟩)⟩)⟩)⟩)⟩)⟩)⟩)⟩)⟩)⟩)⟩)⟩)⟩)⟩)⟩)⟩)⟩)⟩)⟩)⟩)⟩)⟩)⟩)
set_option maxRecDepth 100000 in
theorem inT_wsX5_span_r2 : ∀ w ∈ wsX5_span_r2, w ∈ lw_tbl := (List.forall_mem_cons.mpr ⟨mw_196, (List.forall_mem_cons.mpr ⟨mw_197, (List.forall_mem_cons.mpr ⟨mw_35, (List.forall_mem_cons.mpr ⟨mw_198, (List.forall_mem_cons.mpr ⟨mw_86, (List.forall_mem_cons.mpr ⟨mw_81, (List.forall_mem_cons.mpr ⟨mw_199, (List.forall_mem_cons.mpr ⟨mw_200, (List.forall_mem_cons.mpr ⟨mw_40, (List.forall_mem_cons.mpr ⟨mw_201, (List.forall_mem_cons.mpr ⟨mw_88, (List.forall_mem_cons.mpr ⟨mw_214, (List.forall_mem_cons.mpr ⟨mw_215, (List.forall_mem_cons.mpr ⟨mw_216, (List.forall_mem_cons.mpr ⟨mw_217, (List.forall_mem_cons.mpr ⟨mw_218, (List.forall_mem_cons.mpr ⟨mw_219, (List.forall_mem_cons.mpr ⟨mw_220, (List.forall_mem_cons.mpr ⟨mw_254, (List.forall_mem_cons.mpr ⟨mw_255, (List.forall_mem_cons.mpr ⟨mw_256, (List.forall_mem_cons.mpr ⟨mw_257, (List.forall_mem_cons.mpr ⟨mw_84, (List.forall_mem_cons.mpr ⟨mw_258, (fun _ h => absurd h List.not_mem_nil)⟩)⟩)⟩)⟩)⟩)⟩)⟩)⟩)⟩)⟩)⟩)⟩)⟩)⟩)⟩)⟩)⟩)⟩)⟩)⟩)⟩)⟩)⟩)⟩)
set_option maxRecDepth 100000 in
theorem inT_wsX5_span_r3 : ∀ w ∈ wsX5_span_r3, w ∈ lw_tbl := (List.forall_mem_cons.mpr ⟨mw_260, (List.forall_mem_cons.mpr ⟨mw_1, (List.forall_mem_cons.mpr ⟨mw_261, (List.forall_mem_cons.mpr ⟨mw_83, (List.forall_mem_cons.mpr ⟨mw_82, (List.forall_mem_cons.mpr ⟨mw_85, (List.forall_mem_cons.mpr ⟨mw_262, (List.forall_mem_cons.mpr ⟨mw_250, (List.forall_mem_cons.mpr ⟨mw_251, (List.forall_mem_cons.mpr ⟨mw_252, (List.forall_mem_cons.mpr ⟨mw_263, (List.forall_mem_cons.mpr ⟨mw_265, (List.forall_mem_cons.mpr ⟨mw_2, (List.forall_mem_cons.mpr ⟨mw_266, (List.forall_mem_cons.mpr ⟨mw_267, (List.forall_mem_cons.mpr ⟨mw_269, (List.forall_mem_cons.mpr ⟨mw_3, (List.forall_mem_cons.mpr ⟨mw_270, (List.forall_mem_cons.mpr ⟨mw_271, (List.forall_mem_cons.mpr ⟨mw_273, (List.forall_mem_cons.mpr ⟨mw_4, (List.forall_mem_cons.mpr ⟨mw_274, (List.forall_mem_cons.mpr ⟨mw_80, (List.forall_mem_cons.mpr ⟨mw_279, (fun _ h => absurd h List.not_mem_nil)⟩)⟩)⟩)⟩)⟩)⟩)⟩)⟩)⟩)⟩)⟩)⟩)⟩)⟩)⟩)⟩)⟩)⟩)⟩)⟩)⟩)⟩)⟩)⟩)
set_option maxRecDepth 100000 in
theorem mw_496 : (.code yX5_spanNumber cX5_spanNumber 4 (some .int) : Cond) ∈ lw_tbl := List.mem_of_getElem? (i := 496) rfl
set_option maxRecDepth 100000 in
theorem mw_495 : (.static yX5_spanNumber : Cond) ∈ lw_tbl := List.mem_of_getElem? (i := 495) rfl
set_option maxRecDepth 100000 in
theorem mw_494 : (.methodLink RX5 162 yX5_spanNumber : Cond) ∈ lw_tbl := List.mem_of_getElem? (i := 494) rfl
set_option maxRecDepth 100000 in
theorem inT_wsX5_span_r4 : ∀ w ∈ wsX5_span_r4, w ∈ lw_tbl := (List.forall_mem_cons.mpr ⟨mw_280, (List.forall_mem_cons.mpr ⟨mw_281, (List.forall_mem_cons.mpr ⟨mw_275, (List.forall_mem_cons.mpr ⟨mw_276, (List.forall_mem_cons.mpr ⟨mw_277, (List.forall_mem_cons.mpr ⟨mw_34, (List.forall_mem_cons.mpr ⟨mw_278, (List.forall_mem_cons.mpr ⟨mw_60, (List.forall_mem_cons.mpr ⟨mw_323, (List.forall_mem_cons.mpr ⟨mw_324, (List.forall_mem_cons.mpr ⟨mw_325, (List.forall_mem_cons.mpr ⟨mw_326, (List.forall_mem_cons.mpr ⟨mw_307, (List.forall_mem_cons.mpr ⟨mw_308, (List.forall_mem_cons.mpr ⟨mw_309, (List.forall_mem_cons.mpr ⟨mw_310, (List.forall_mem_cons.mpr ⟨mw_494, (List.forall_mem_cons.mpr ⟨mw_495, (List.forall_mem_cons.mpr ⟨mw_496, (fun _ h => absurd h List.not_mem_nil)⟩)⟩)⟩)⟩)⟩)⟩)⟩)⟩)⟩)⟩)⟩)⟩)⟩)⟩)⟩)⟩)⟩)⟩)⟩)
set_option maxRecDepth 100000 in
theorem inT_wsX5_span : ∀ w ∈ wsX5_span, w ∈ lw_tbl := (List.forall_mem_cons.mpr ⟨mw_482, (List.forall_mem_append.mpr ⟨(List.forall_mem_append.mpr ⟨(List.forall_mem_append.mpr ⟨(List.forall_mem_append.mpr ⟨inT_wsX5_span_r1, (List.forall_mem_append.mpr ⟨inT_wsX5_span_r2, (List.forall_mem_append.mpr ⟨inT_wsX5_span_r3, inT_wsX5_span_r4⟩)⟩)⟩), inT_X5⟩), inT_X1⟩), inT_X3⟩)⟩)
set_option maxRecDepth 100000 in
theorem mw_481 : (.selects RX5 yX5_span yX5_span : Cond) ∈ lw_tbl := List.mem_of_getElem? (i := 481) rfl
set_option maxRecDepth 100000 in
theorem mw_480 : (.instanceMethod yX5_span : Cond) ∈ lw_tbl := List.mem_of_getElem? (i := 480) rfl
set_option maxRecDepth 100000 in
theorem mw_479 : (.methodLink RL 91 yX5_span : Cond) ∈ lw_tbl := List.mem_of_getElem? (i := 479) rfl
set_option maxRecDepth 100000 in
theorem gT_X5_span : GoodIn lw_tbl (wsV RL 91 RX5 yX5_span wsX5_span) := goodIn_sub (List.forall_mem_append.mpr ⟨(List.forall_mem_cons.mpr ⟨mw_479, (List.forall_mem_cons.mpr ⟨mw_480, (List.forall_mem_cons.mpr ⟨mw_481, (List.forall_mem_cons.mpr ⟨mw_33, (fun _ h => absurd h List.not_mem_nil)⟩)⟩)⟩)⟩), inT_wsX5_span⟩) (by decide +kernel)
set_option maxRecDepth 100000 in
theorem mw_763 : (.code yX6_span cX6_span 7 (some .int) : Cond) ∈ lw_tbl := List.mem_of_getElem? (i := 763) rfl
set_option maxRecDepth 100000 in
theorem mw_767 : (.code yX6_spans cX6_spans 4 (some .boolean) : Cond) ∈ lw_tbl := List.mem_of_getElem? (i := 767) rfl
set_option maxRecDepth 100000 in
theorem mw_31 : (.selects RX6 yX6_spans yX6_spans : Cond) ∈ lw_tbl := List.mem_of_getElem? (i := 31) rfl
set_option maxRecDepth 100000 in
theorem mw_766 : (.instanceMethod yX6_spans : Cond) ∈ lw_tbl := List.mem_of_getElem? (i := 766) rfl
set_option maxRecDepth 100000 in
theorem mw_764 : (.methodLink RX6 172 yX6_spans : Cond) ∈ lw_tbl := List.mem_of_getElem? (i := 764) rfl
set_option maxRecDepth 100000 in
theorem inT_wsX6_span_r1 : ∀ w ∈ wsX6_span_r1, w ∈ lw_tbl := (List.forall_mem_cons.mpr ⟨mw_688, (List.forall_mem_cons.mpr ⟨mw_595, (List.forall_mem_cons.mpr ⟨mw_539, (List.forall_mem_cons.mpr ⟨mw_538, (List.forall_mem_cons.mpr ⟨mw_596, (List.forall_mem_cons.mpr ⟨mw_597, (List.forall_mem_cons.mpr ⟨mw_39, (List.forall_mem_cons.mpr ⟨mw_598, (List.forall_mem_cons.mpr ⟨mw_764, (List.forall_mem_cons.mpr ⟨mw_766, (List.forall_mem_cons.mpr ⟨mw_31, (List.forall_mem_cons.mpr ⟨mw_767, (List.forall_mem_cons.mpr ⟨mw_633, (List.forall_mem_cons.mpr ⟨mw_635, (List.forall_mem_cons.mpr ⟨mw_14, (List.forall_mem_cons.mpr ⟨mw_636, (List.forall_mem_cons.mpr ⟨mw_540, (List.forall_mem_cons.mpr ⟨mw_543, (List.forall_mem_cons.mpr ⟨mw_637, (List.forall_mem_cons.mpr ⟨mw_638, (List.forall_mem_cons.mpr ⟨mw_639, (List.forall_mem_cons.mpr ⟨mw_640, (List.forall_mem_cons.mpr ⟨mw_642, (List.forall_mem_cons.mpr ⟨mw_15, (fun _ h => absurd h List.not_mem_nil)⟩)⟩)⟩)⟩)⟩)⟩)⟩)⟩)⟩)⟩)⟩)⟩)⟩)⟩)⟩)⟩)⟩)⟩)⟩)⟩)⟩)⟩)⟩)⟩)
set_option maxRecDepth 100000 in
theorem inT_wsX6_span_r2 : ∀ w ∈ wsX6_span_r2, w ∈ lw_tbl := (List.forall_mem_cons.mpr ⟨mw_643, (List.forall_mem_cons.mpr ⟨mw_541, (List.forall_mem_cons.mpr ⟨mw_542, (List.forall_mem_cons.mpr ⟨mw_644, (List.forall_mem_cons.mpr ⟨mw_646, (List.forall_mem_cons.mpr ⟨mw_16, (List.forall_mem_cons.mpr ⟨mw_647, (List.forall_mem_cons.mpr ⟨mw_648, (List.forall_mem_cons.mpr ⟨mw_650, (List.forall_mem_cons.mpr ⟨mw_17, (List.forall_mem_cons.mpr ⟨mw_651, (List.forall_mem_cons.mpr ⟨mw_532, (List.forall_mem_cons.mpr ⟨mw_652, (List.forall_mem_cons.mpr ⟨mw_654, (List.forall_mem_cons.mpr ⟨mw_18, (List.forall_mem_cons.mpr ⟨mw_655, (List.forall_mem_cons.mpr ⟨mw_533, (List.forall_mem_cons.mpr ⟨mw_672, (List.forall_mem_cons.mpr ⟨mw_674, (List.forall_mem_cons.mpr ⟨mw_21, (List.forall_mem_cons.mpr ⟨mw_675, (List.forall_mem_cons.mpr ⟨mw_660, (List.forall_mem_cons.mpr ⟨mw_662, (List.forall_mem_cons.mpr ⟨mw_19, (fun _ h => absurd h List.not_mem_nil)⟩)⟩)⟩)⟩)⟩)⟩)⟩)⟩)⟩)⟩)⟩)⟩)⟩)⟩)⟩)⟩)⟩)⟩)⟩)⟩)⟩)⟩)⟩)⟩)
set_option maxRecDepth 100000 in
theorem inT_wsX6_span_r3 : ∀ w ∈ wsX6_span_r3, w ∈ lw_tbl := (List.forall_mem_cons.mpr ⟨mw_663, (fun _ h => absurd h List.not_mem_nil)⟩)
set_option maxRecDepth 100000 in
theorem inT_wsX6_span : ∀ w ∈ wsX6_span, w ∈ lw_tbl := (List.forall_mem_cons.mpr ⟨mw_763, (List.forall_mem_append.mpr ⟨(List.forall_mem_append.mpr ⟨inT_wsX6_span_r1, (List.forall_mem_append.mpr ⟨inT_wsX6_span_r2, inT_wsX6_span_r3⟩)⟩), inT_X6⟩)⟩)
set_option maxRecDepth 100000 in
theorem mw_762 : (.selects RX6 yX6_span yX6_span : Cond) ∈ lw_tbl := List.mem_of_getElem? (i := 762) rfl
set_option maxRecDepth 100000 in
theorem mw_761 : (.instanceMethod yX6_span : Cond) ∈ lw_tbl := List.mem_of_getElem? (i := 761) rfl
set_option maxRecDepth 100000 in
theorem mw_760 : (.methodLink RL 94 yX6_span : Cond) ∈ lw_tbl := List.mem_of_getElem? (i := 760) rfl
set_option maxRecDepth 100000 in
theorem gT_X6_span : GoodIn lw_tbl (wsV RL 94 RX6 yX6_span wsX6_span) := goodIn_sub (List.forall_mem_append.mpr ⟨(List.forall_mem_cons.mpr ⟨mw_760, (List.forall_mem_cons.mpr ⟨mw_761, (List.forall_mem_cons.mpr ⟨mw_762, (List.forall_mem_cons.mpr ⟨mw_39, (fun _ h => absurd h List.not_mem_nil)⟩)⟩)⟩)⟩), inT_wsX6_span⟩) (by decide +kernel)
set_option maxRecDepth 100000 in
theorem mw_500 : (.code yX5_signs cX5_signs 3 (some .int) : Cond) ∈ lw_tbl := List.mem_of_getElem? (i := 500) rfl
set_option maxRecDepth 100000 in
theorem mw_515 : (.static yX4_signed : Cond) ∈ lw_tbl := List.mem_of_getElem? (i := 515) rfl
set_option maxRecDepth 100000 in
theorem mw_514 : (.methodLink RX4 37 yX4_signed : Cond) ∈ lw_tbl := List.mem_of_getElem? (i := 514) rfl
set_option maxRecDepth 100000 in
theorem mw_513 : (.code yX4_arrive cX4_arrive 3 none : Cond) ∈ lw_tbl := List.mem_of_getElem? (i := 513) rfl
set_option maxRecDepth 100000 in
theorem mw_11 : (.selects RX4 yX4_arrive yX4_arrive : Cond) ∈ lw_tbl := List.mem_of_getElem? (i := 11) rfl
set_option maxRecDepth 100000 in
theorem mw_512 : (.instanceMethod yX4_arrive : Cond) ∈ lw_tbl := List.mem_of_getElem? (i := 512) rfl
set_option maxRecDepth 100000 in
theorem mw_510 : (.methodLink RX4 33 yX4_arrive : Cond) ∈ lw_tbl := List.mem_of_getElem? (i := 510) rfl
set_option maxRecDepth 100000 in
theorem mw_509 : (.code yX4_walkFrom cX4_walkFrom 5 none : Cond) ∈ lw_tbl := List.mem_of_getElem? (i := 509) rfl
set_option maxRecDepth 100000 in
theorem mw_10 : (.selects RX4 yX4_walkFrom yX4_walkFrom : Cond) ∈ lw_tbl := List.mem_of_getElem? (i := 10) rfl
set_option maxRecDepth 100000 in
theorem mw_508 : (.instanceMethod yX4_walkFrom : Cond) ∈ lw_tbl := List.mem_of_getElem? (i := 508) rfl
set_option maxRecDepth 100000 in
theorem mw_506 : (.methodLink RX4 29 yX4_walkFrom : Cond) ∈ lw_tbl := List.mem_of_getElem? (i := 506) rfl
set_option maxRecDepth 100000 in
theorem mw_504 : (.code yX4_stepsBetween cX4_stepsBetween 3 (some .int) : Cond) ∈ lw_tbl := List.mem_of_getElem? (i := 504) rfl
set_option maxRecDepth 100000 in
theorem mw_503 : (.selects RX4 yX4_stepsBetween yX4_stepsBetween : Cond) ∈ lw_tbl := List.mem_of_getElem? (i := 503) rfl
set_option maxRecDepth 100000 in
theorem mw_502 : (.instanceMethod yX4_stepsBetween : Cond) ∈ lw_tbl := List.mem_of_getElem? (i := 502) rfl
set_option maxRecDepth 100000 in
theorem mw_501 : (.methodLink RX5 165 yX4_stepsBetween : Cond) ∈ lw_tbl := List.mem_of_getElem? (i := 501) rfl
set_option maxRecDepth 100000 in
theorem inT_wsX5_signs_r1 : ∀ w ∈ wsX5_signs_r1, w ∈ lw_tbl := (List.forall_mem_cons.mpr ⟨mw_174, (List.forall_mem_cons.mpr ⟨mw_192, (List.forall_mem_cons.mpr ⟨mw_193, (List.forall_mem_cons.mpr ⟨mw_33, (List.forall_mem_cons.mpr ⟨mw_194, (List.forall_mem_cons.mpr ⟨mw_501, (List.forall_mem_cons.mpr ⟨mw_502, (List.forall_mem_cons.mpr ⟨mw_503, (List.forall_mem_cons.mpr ⟨mw_38, (List.forall_mem_cons.mpr ⟨mw_504, (List.forall_mem_cons.mpr ⟨mw_159, (List.forall_mem_cons.mpr ⟨mw_156, (List.forall_mem_cons.mpr ⟨mw_506, (List.forall_mem_cons.mpr ⟨mw_508, (List.forall_mem_cons.mpr ⟨mw_10, (List.forall_mem_cons.mpr ⟨mw_509, (List.forall_mem_cons.mpr ⟨mw_158, (List.forall_mem_cons.mpr ⟨mw_157, (List.forall_mem_cons.mpr ⟨mw_510, (List.forall_mem_cons.mpr ⟨mw_512, (List.forall_mem_cons.mpr ⟨mw_11, (List.forall_mem_cons.mpr ⟨mw_513, (List.forall_mem_cons.mpr ⟨mw_514, (List.forall_mem_cons.mpr ⟨mw_515, (fun _ h => absurd h List.not_mem_nil)⟩)⟩)⟩)⟩)⟩)⟩)⟩)⟩)⟩)⟩)⟩)⟩)⟩)⟩)⟩)⟩)⟩)⟩)⟩)⟩)⟩)⟩)⟩)⟩)
set_option maxRecDepth 100000 in
theorem mw_522 : (.code yX4_productTo cX4_productTo 3 (some .int) : Cond) ∈ lw_tbl := List.mem_of_getElem? (i := 522) rfl
set_option maxRecDepth 100000 in
theorem mw_521 : (.static yX4_productTo : Cond) ∈ lw_tbl := List.mem_of_getElem? (i := 521) rfl
set_option maxRecDepth 100000 in
theorem mw_520 : (.methodLink RX4 45 yX4_productTo : Cond) ∈ lw_tbl := List.mem_of_getElem? (i := 520) rfl
set_option maxRecDepth 100000 in
theorem mw_519 : (.code yX4_rootOf cX4_rootOf 3 (some .int) : Cond) ∈ lw_tbl := List.mem_of_getElem? (i := 519) rfl
set_option maxRecDepth 100000 in
theorem mw_518 : (.static yX4_rootOf : Cond) ∈ lw_tbl := List.mem_of_getElem? (i := 518) rfl
set_option maxRecDepth 100000 in
theorem mw_517 : (.methodLink RX4 41 yX4_rootOf : Cond) ∈ lw_tbl := List.mem_of_getElem? (i := 517) rfl
set_option maxRecDepth 100000 in
theorem mw_516 : (.code yX4_signed cX4_signed 2 (some .int) : Cond) ∈ lw_tbl := List.mem_of_getElem? (i := 516) rfl
set_option maxRecDepth 100000 in
theorem inT_wsX5_signs_r2 : ∀ w ∈ wsX5_signs_r2, w ∈ lw_tbl := (List.forall_mem_cons.mpr ⟨mw_516, (List.forall_mem_cons.mpr ⟨mw_517, (List.forall_mem_cons.mpr ⟨mw_518, (List.forall_mem_cons.mpr ⟨mw_519, (List.forall_mem_cons.mpr ⟨mw_520, (List.forall_mem_cons.mpr ⟨mw_521, (List.forall_mem_cons.mpr ⟨mw_522, (fun _ h => absurd h List.not_mem_nil)⟩)⟩)⟩)⟩)⟩)⟩)⟩)
set_option maxRecDepth 100000 in
theorem inT_wsX5_signs : ∀ w ∈ wsX5_signs, w ∈ lw_tbl := (List.forall_mem_cons.mpr ⟨mw_500, (List.forall_mem_append.mpr ⟨(List.forall_mem_append.mpr ⟨(List.forall_mem_append.mpr ⟨inT_wsX5_signs_r1, inT_wsX5_signs_r2⟩), inT_X5⟩), inT_X4⟩)⟩)
set_option maxRecDepth 100000 in
theorem mw_499 : (.selects RX5 yX5_signs yX5_signs : Cond) ∈ lw_tbl := List.mem_of_getElem? (i := 499) rfl
set_option maxRecDepth 100000 in
theorem mw_498 : (.instanceMethod yX5_signs : Cond) ∈ lw_tbl := List.mem_of_getElem? (i := 498) rfl
set_option maxRecDepth 100000 in
theorem mw_497 : (.methodLink RL 95 yX5_signs : Cond) ∈ lw_tbl := List.mem_of_getElem? (i := 497) rfl
set_option maxRecDepth 100000 in
theorem gT_X5_signs : GoodIn lw_tbl (wsV RL 95 RX5 yX5_signs wsX5_signs) := goodIn_sub (List.forall_mem_append.mpr ⟨(List.forall_mem_cons.mpr ⟨mw_497, (List.forall_mem_cons.mpr ⟨mw_498, (List.forall_mem_cons.mpr ⟨mw_499, (List.forall_mem_cons.mpr ⟨mw_33, (fun _ h => absurd h List.not_mem_nil)⟩)⟩)⟩)⟩), inT_wsX5_signs⟩) (by decide +kernel)
set_option maxRecDepth 100000 in
theorem mw_771 : (.code yX6_signs cX6_signs 8 (some .int) : Cond) ∈ lw_tbl := List.mem_of_getElem? (i := 771) rfl
set_option maxRecDepth 100000 in
theorem mw_778 : (.code yX6_root cX6_root 2 (some .int) : Cond) ∈ lw_tbl := List.mem_of_getElem? (i := 778) rfl
set_option maxRecDepth 100000 in
theorem mw_777 : (.static yX6_root : Cond) ∈ lw_tbl := List.mem_of_getElem? (i := 777) rfl
set_option maxRecDepth 100000 in
theorem mw_776 : (.methodLink RX6 175 yX6_root : Cond) ∈ lw_tbl := List.mem_of_getElem? (i := 776) rfl
set_option maxRecDepth 100000 in
theorem mw_775 : (.code yX6_signed cX6_signed 4 (some .int) : Cond) ∈ lw_tbl := List.mem_of_getElem? (i := 775) rfl
set_option maxRecDepth 100000 in
theorem mw_774 : (.static yX6_signed : Cond) ∈ lw_tbl := List.mem_of_getElem? (i := 774) rfl
set_option maxRecDepth 100000 in
theorem mw_773 : (.methodLink RX6 180 yX6_signed : Cond) ∈ lw_tbl := List.mem_of_getElem? (i := 773) rfl
set_option maxRecDepth 100000 in
theorem mw_772 : (.constantLong RX6 178 (5040) : Cond) ∈ lw_tbl := List.mem_of_getElem? (i := 772) rfl
set_option maxRecDepth 100000 in
theorem inT_wsX6_signs : ∀ w ∈ wsX6_signs, w ∈ lw_tbl := (List.forall_mem_cons.mpr ⟨mw_771, (List.forall_mem_append.mpr ⟨(List.forall_mem_cons.mpr ⟨mw_595, (List.forall_mem_cons.mpr ⟨mw_772, (List.forall_mem_cons.mpr ⟨mw_548, (List.forall_mem_cons.mpr ⟨mw_549, (List.forall_mem_cons.mpr ⟨mw_596, (List.forall_mem_cons.mpr ⟨mw_597, (List.forall_mem_cons.mpr ⟨mw_39, (List.forall_mem_cons.mpr ⟨mw_598, (List.forall_mem_cons.mpr ⟨mw_773, (List.forall_mem_cons.mpr ⟨mw_774, (List.forall_mem_cons.mpr ⟨mw_775, (List.forall_mem_cons.mpr ⟨mw_776, (List.forall_mem_cons.mpr ⟨mw_777, (List.forall_mem_cons.mpr ⟨mw_778, (fun _ h => absurd h List.not_mem_nil)⟩)⟩)⟩)⟩)⟩)⟩)⟩)⟩)⟩)⟩)⟩)⟩)⟩)⟩), inT_X6⟩)⟩)
set_option maxRecDepth 100000 in
theorem mw_770 : (.selects RX6 yX6_signs yX6_signs : Cond) ∈ lw_tbl := List.mem_of_getElem? (i := 770) rfl
set_option maxRecDepth 100000 in
theorem mw_769 : (.instanceMethod yX6_signs : Cond) ∈ lw_tbl := List.mem_of_getElem? (i := 769) rfl
set_option maxRecDepth 100000 in
theorem mw_768 : (.methodLink RL 98 yX6_signs : Cond) ∈ lw_tbl := List.mem_of_getElem? (i := 768) rfl
set_option maxRecDepth 100000 in
theorem gT_X6_signs : GoodIn lw_tbl (wsV RL 98 RX6 yX6_signs wsX6_signs) := goodIn_sub (List.forall_mem_append.mpr ⟨(List.forall_mem_cons.mpr ⟨mw_768, (List.forall_mem_cons.mpr ⟨mw_769, (List.forall_mem_cons.mpr ⟨mw_770, (List.forall_mem_cons.mpr ⟨mw_39, (fun _ h => absurd h List.not_mem_nil)⟩)⟩)⟩)⟩), inT_wsX6_signs⟩) (by decide +kernel)
