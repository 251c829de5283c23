def R_law : String := "SixNumbersLaw"
def lw_P (b : Addr) (xs : List Int32) (args : Array Value) (s : State) : Prop := args = #[.ref b] ∧ s.IntsAt b xs ∧ xs.length ≤ 2048 ∧ (Jvm.Cond.and given_1 narrow_1).before args s = true
def lw_Q (_ : Array Value) (s : State) (o : Outcome) (t : State) : Prop := o = .returned (some (.int 1)) ∧ Framed s o t [] 600000 7302250
def lw_Z (below : List Frame) (a : Array Value) (s : State) : State → Prop := fun t => ∃ o, t.status = .running ∧ Ended t below o ∧ lw_Q a s o t
/-- the law's own end, with 1 on the stack, nothing written that was there before, its room as the claim has it -/
theorem lw_ret {p : Program} {l : Launch} {e : Env} {s : State} {m : MethodId} {below : List Frame} {meth : Method} {c : Code} {b : Nat} (hx : p.tables.exec = Jvm.exec) (hb : c.code = code) (hr : meth.sig.returnType = ret) (hlocks : meth.locks = false) {pc : Nat} {H : Heap} {ls : Array Slot} (hdg : decode code pc = .ok (.ireturn, 1)) : W p l e room_1 s m #[Value.ref b] below meth c H [] 600000 7302250 (lw_Z below #[Value.ref b] s) (F0 m pc ls [.int 1]) := by
  intro T hT X
  obtain ⟨fs, hret, hrun, hended, hW, hframe⟩ := X.leave (v := some (.int 1)) (hlocks := hlocks) (fun h => by rw [hr] at h; cases h)
  have hmeth' : T.vm.method? m = some meth := X.method'
  refine ⟨T.setFrames fs, ?_, .returned (some (.int 1)), hrun, hended, rfl, ⟨_, rfl⟩, hW, hframe⟩
  jvm_step X.here [X.here.top, hx, hb, hdg, hmeth', hr, ret, narrow_b1]
  (try refine ⟨rfl, ?_⟩); (try refine ⟨rfl, ?_⟩)
  first | (intro acts; rw [hret _ acts rfl rfl rfl]) | rw [hret _ _ rfl rfl rfl]
  exact Steps.refl _
/-- what holds at the law's entry: the machine, the code, the tables' words (any of lw_tbl by 'hts w (by decide +kernel)'), the script of L ints xs at the cell b, what the Statement gives of the start (any of its parts by flat_of_before) -/
def lw_At (p : Program) (s : State) (m : MethodId) (meth : Method) (c : Code) (b L : Nat) (xs : Nat → Int32) : Prop :=
  p.tables.exec = Jvm.exec ∧ c.code = code ∧ meth.sig.returnType = ret ∧ c.maxLocals = 4 ∧ s.vm.findClass R_law = some m.cls ∧ (∀ w ∈ lw_tbl, w.before #[Value.ref b] s = true) ∧ va_X b L xs s s.heap ∧ b < s.heap.size ∧ meth.locks = false ∧ (Jvm.Cond.and given_1 narrow_1).before #[Value.ref b] s = true
def v_law_op_0 (xs : Nat → Int32) (Ln : Nat) (K : Int32 → xM → xL → Prop) (x3 : Int32) (A : xM) (L : xL) : Prop := vp_in (x3 + (1 : Int32)) Ln ∧ (v_X5_item (xs (x3 + (1 : Int32)).toNatClampNeg) A L (fun (r_6 : Int32) (A_7 : xM) (L_8 : xL) => (v_X6_item (xs (x3 + (1 : Int32)).toNatClampNeg) A_7 L_8 (fun (r_9 : Int32) (A_10 : xM) (L_11 : xL) => ((r_6 = r_9 → (∀ x3_13 : Int32, x3_13 = x3 + (4 : Int32) → (K x3_13 A_10 L_11))) ∧ (¬ r_6 = r_9 → (False)))))))
def v_law_op_1 (xs : Nat → Int32) (Ln : Nat) (K : Int32 → xM → xL → Prop) (x3 : Int32) (A : xM) (L : xL) : Prop := vp_in (x3 + (1 : Int32)) Ln ∧ (vp_in (x3 + (2 : Int32)) Ln ∧ (v_X5_set (xs (x3 + (1 : Int32)).toNatClampNeg) (xs (x3 + (2 : Int32)).toNatClampNeg) A L (fun (r_16 : Int32) (A_17 : xM) (L_18 : xL) => (v_X6_set (xs (x3 + (1 : Int32)).toNatClampNeg) (xs (x3 + (2 : Int32)).toNatClampNeg) A_17 L_18 (fun (r_19 : Int32) (A_20 : xM) (L_21 : xL) => ((r_16 = r_19 → (∀ x3_23 : Int32, x3_23 = x3 + (4 : Int32) → (K x3_23 A_20 L_21))) ∧ (¬ r_16 = r_19 → (False))))))))
def v_law_op_2 (xs : Nat → Int32) (Ln : Nat) (K : Int32 → xM → xL → Prop) (x3 : Int32) (A : xM) (L : xL) : Prop := vp_in (x3 + (1 : Int32)) Ln ∧ (v_X5_cut (xs (x3 + (1 : Int32)).toNatClampNeg) A L (fun (r_25 : Int32) (A_26 : xM) (L_27 : xL) => (v_X6_cut (xs (x3 + (1 : Int32)).toNatClampNeg) A_26 L_27 (fun (r_28 : Int32) (A_29 : xM) (L_30 : xL) => ((r_25 = r_28 → (∀ x3_32 : Int32, x3_32 = x3 + (4 : Int32) → (K x3_32 A_29 L_30))) ∧ (¬ r_25 = r_28 → (False)))))))
def v_law_op_3 (xs : Nat → Int32) (Ln : Nat) (K : Int32 → xM → xL → Prop) (x3 : Int32) (A : xM) (L : xL) : Prop := vp_in (x3 + (1 : Int32)) Ln ∧ (vp_in (x3 + (2 : Int32)) Ln ∧ (v_X5_rule (xs (x3 + (1 : Int32)).toNatClampNeg) (xs (x3 + (2 : Int32)).toNatClampNeg) A L (fun (r_35 : Int32) (A_36 : xM) (L_37 : xL) => (v_X6_rule (xs (x3 + (1 : Int32)).toNatClampNeg) (xs (x3 + (2 : Int32)).toNatClampNeg) A_36 L_37 (fun (r_38 : Int32) (A_39 : xM) (L_40 : xL) => ((r_35 = r_38 → (∀ x3_42 : Int32, x3_42 = x3 + (4 : Int32) → (K x3_42 A_39 L_40))) ∧ (¬ r_35 = r_38 → (False))))))))
def v_law_op_4 (xs : Nat → Int32) (Ln : Nat) (K : Int32 → xM → xL → Prop) (x3 : Int32) (A : xM) (L : xL) : Prop := vp_in (x3 + (1 : Int32)) Ln ∧ (v_X5_told (xs (x3 + (1 : Int32)).toNatClampNeg) A L (fun (r_44 : Int32) => (v_X6_told (xs (x3 + (1 : Int32)).toNatClampNeg) A L (fun (r_45 : Int32) => ((r_44 = r_45 → (∀ x3_47 : Int32, x3_47 = x3 + (4 : Int32) → (K x3_47 A L))) ∧ (¬ r_44 = r_45 → (False)))))))
def v_law_op_5 (xs : Nat → Int32) (Ln : Nat) (K : Int32 → xM → xL → Prop) (x3 : Int32) (A : xM) (L : xL) : Prop := vp_in (x3 + (1 : Int32)) Ln ∧ (vp_in (x3 + (2 : Int32)) Ln ∧ (v_X5_ways (xs (x3 + (1 : Int32)).toNatClampNeg) (xs (x3 + (2 : Int32)).toNatClampNeg) A L (fun (r_50 : Int64) (A_51 : xM) (L_52 : xL) => (v_X6_ways (xs (x3 + (1 : Int32)).toNatClampNeg) (xs (x3 + (2 : Int32)).toNatClampNeg) A_51 L_52 (fun (r_53 : Int64) (A_54 : xM) (L_55 : xL) => (((lg_cmp r_50 r_53) = 0 → (∀ x3_57 : Int32, x3_57 = x3 + (4 : Int32) → (K x3_57 A_54 L_55))) ∧ (¬ (lg_cmp r_50 r_53) = 0 → (False))))))))
def v_law_op_6 (xs : Nat → Int32) (Ln : Nat) (K : Int32 → xM → xL → Prop) (x3 : Int32) (A : xM) (L : xL) : Prop := vp_in (x3 + (1 : Int32)) Ln ∧ (v_X5_all (xs (x3 + (1 : Int32)).toNatClampNeg) A L (fun (r_59 : Int64) (A_60 : xM) (L_61 : xL) => (v_X6_all (xs (x3 + (1 : Int32)).toNatClampNeg) A_60 L_61 (fun (r_62 : Int64) (A_63 : xM) (L_64 : xL) => (((lg_cmp r_59 r_62) = 0 → (∀ x3_66 : Int32, x3_66 = x3 + (4 : Int32) → (K x3_66 A_63 L_64))) ∧ (¬ (lg_cmp r_59 r_62) = 0 → (False)))))))
def v_law_op_7 (xs : Nat → Int32) (Ln : Nat) (K : Int32 → xM → xL → Prop) (x3 : Int32) (A : xM) (L : xL) : Prop := vp_in (x3 + (1 : Int32)) Ln ∧ (v_X5_reached (xs (x3 + (1 : Int32)).toNatClampNeg) A L (fun (r_68 : Int32) (A_69 : xM) (L_70 : xL) => (v_X6_reached (xs (x3 + (1 : Int32)).toNatClampNeg) A_69 L_70 (fun (r_71 : Int32) (A_72 : xM) (L_73 : xL) => ((r_68 = r_71 → (∀ x3_75 : Int32, x3_75 = x3 + (4 : Int32) → (K x3_75 A_72 L_73))) ∧ (¬ r_68 = r_71 → (False)))))))
def v_law_op_8 (xs : Nat → Int32) (Ln : Nat) (K : Int32 → xM → xL → Prop) (x3 : Int32) (A : xM) (L : xL) : Prop := vp_in (x3 + (1 : Int32)) Ln ∧ (vp_in (x3 + (2 : Int32)) Ln ∧ (v_X5_value (xs (x3 + (1 : Int32)).toNatClampNeg) (xs (x3 + (2 : Int32)).toNatClampNeg) A L (fun (r_78 : Int32) (A_79 : xM) (L_80 : xL) => (v_X6_value (xs (x3 + (1 : Int32)).toNatClampNeg) (xs (x3 + (2 : Int32)).toNatClampNeg) A_79 L_80 (fun (r_81 : Int32) (A_82 : xM) (L_83 : xL) => ((r_78 = r_81 → (∀ x3_85 : Int32, x3_85 = x3 + (4 : Int32) → (K x3_85 A_82 L_83))) ∧ (¬ r_78 = r_81 → (False))))))))
def v_law_op_9 (xs : Nat → Int32) (Ln : Nat) (K : Int32 → xM → xL → Prop) (x3 : Int32) (A : xM) (L : xL) : Prop := v_X5_missing A L (fun (r_86 : Int32) (A_87 : xM) (L_88 : xL) => (v_X6_missing A_87 L_88 (fun (r_89 : Int32) (A_90 : xM) (L_91 : xL) => ((r_86 = r_89 → (∀ x3_93 : Int32, x3_93 = x3 + (4 : Int32) → (K x3_93 A_90 L_91))) ∧ (¬ r_86 = r_89 → (False))))))
def v_law_op_10 (xs : Nat → Int32) (Ln : Nat) (K : Int32 → xM → xL → Prop) (x3 : Int32) (A : xM) (L : xL) : Prop := vp_in (x3 + (1 : Int32)) Ln ∧ (vp_in (x3 + (2 : Int32)) Ln ∧ (v_X5_aim (xs (x3 + (1 : Int32)).toNatClampNeg) (xs (x3 + (2 : Int32)).toNatClampNeg) A L (fun (r_96 : Int32) (A_97 : xM) (L_98 : xL) => (v_X6_aim (xs (x3 + (1 : Int32)).toNatClampNeg) (xs (x3 + (2 : Int32)).toNatClampNeg) A_97 L_98 (fun (r_99 : Int32) (A_100 : xM) (L_101 : xL) => ((r_96 = r_99 → (∀ x3_103 : Int32, x3_103 = x3 + (4 : Int32) → (K x3_103 A_100 L_101))) ∧ (¬ r_96 = r_99 → (False))))))))
def v_law_op_11 (xs : Nat → Int32) (Ln : Nat) (K : Int32 → xM → xL → Prop) (x3 : Int32) (A : xM) (L : xL) : Prop := vp_in (x3 + (1 : Int32)) Ln ∧ (v_X5_print (xs (x3 + (1 : Int32)).toNatClampNeg) A L (fun (r_105 : Int32) (A_106 : xM) (L_107 : xL) => (v_X6_print (xs (x3 + (1 : Int32)).toNatClampNeg) A_106 L_107 (fun (r_108 : Int32) (A_109 : xM) (L_110 : xL) => ((r_105 = r_108 → (∀ x3_112 : Int32, x3_112 = x3 + (4 : Int32) → (K x3_112 A_109 L_110))) ∧ (¬ r_105 = r_108 → (False)))))))
def v_law_op_12 (xs : Nat → Int32) (Ln : Nat) (K : Int32 → xM → xL → Prop) (x3 : Int32) (A : xM) (L : xL) : Prop := vp_in (x3 + (1 : Int32)) Ln ∧ (vp_in (x3 + (2 : Int32)) Ln ∧ (v_X5_printOf (xs (x3 + (1 : Int32)).toNatClampNeg) (xs (x3 + (2 : Int32)).toNatClampNeg) A L (fun (r_115 : Int32) (A_116 : xM) (L_117 : xL) => (v_X6_printOf (xs (x3 + (1 : Int32)).toNatClampNeg) (xs (x3 + (2 : Int32)).toNatClampNeg) A_116 L_117 (fun (r_118 : Int32) (A_119 : xM) (L_120 : xL) => ((r_115 = r_118 → (∀ x3_122 : Int32, x3_122 = x3 + (4 : Int32) → (K x3_122 A_119 L_120))) ∧ (¬ r_115 = r_118 → (False))))))))
def v_law_op_13 (xs : Nat → Int32) (Ln : Nat) (K : Int32 → xM → xL → Prop) (x3 : Int32) (A : xM) (L : xL) : Prop := vp_in (x3 + (1 : Int32)) Ln ∧ (v_X5_out (xs (x3 + (1 : Int32)).toNatClampNeg) A L (fun (r_124 : Int32) => (v_X6_out (xs (x3 + (1 : Int32)).toNatClampNeg) A L (fun (r_125 : Int32) => ((r_124 = r_125 → (∀ x3_127 : Int32, x3_127 = x3 + (4 : Int32) → (K x3_127 A L))) ∧ (¬ r_124 = r_125 → (False)))))))
def v_law_op_14 (xs : Nat → Int32) (Ln : Nat) (K : Int32 → xM → xL → Prop) (x3 : Int32) (A : xM) (L : xL) : Prop := vp_in (x3 + (1 : Int32)) Ln ∧ (v_X5_card (xs (x3 + (1 : Int32)).toNatClampNeg) A L (fun (r_129 : Int32) (A_130 : xM) (L_131 : xL) => (v_X6_card (xs (x3 + (1 : Int32)).toNatClampNeg) A_130 L_131 (fun (r_132 : Int32) (A_133 : xM) (L_134 : xL) => ((r_129 = r_132 → (∀ x3_136 : Int32, x3_136 = x3 + (4 : Int32) → (K x3_136 A_133 L_134))) ∧ (¬ r_129 = r_132 → (False)))))))
def v_law_op_15 (xs : Nat → Int32) (Ln : Nat) (K : Int32 → xM → xL → Prop) (x3 : Int32) (A : xM) (L : xL) : Prop := v_X5_empty A L (fun (r_137 : Int32) (A_138 : xM) (L_139 : xL) => (v_X6_empty A_138 L_139 (fun (r_140 : Int32) (A_141 : xM) (L_142 : xL) => ((r_137 = r_140 → (∀ x3_144 : Int32, x3_144 = x3 + (4 : Int32) → (K x3_144 A_141 L_142))) ∧ (¬ r_137 = r_140 → (False))))))
def v_law_op_16 (xs : Nat → Int32) (Ln : Nat) (K : Int32 → xM → xL → Prop) (x3 : Int32) (A : xM) (L : xL) : Prop := vp_in (x3 + (1 : Int32)) Ln ∧ (vp_in (x3 + (2 : Int32)) Ln ∧ (vp_in (x3 + (3 : Int32)) Ln ∧ (v_X5_draws (xs (x3 + (1 : Int32)).toNatClampNeg) (xs (x3 + (2 : Int32)).toNatClampNeg) (xs (x3 + (3 : Int32)).toNatClampNeg) A L (fun (r_148 : Int32) (A_149 : xM) (L_150 : xL) => (v_X6_draws (xs (x3 + (1 : Int32)).toNatClampNeg) (xs (x3 + (2 : Int32)).toNatClampNeg) (xs (x3 + (3 : Int32)).toNatClampNeg) A_149 L_150 (fun (r_151 : Int32) (A_152 : xM) (L_153 : xL) => ((r_148 = r_151 → (∀ x3_155 : Int32, x3_155 = x3 + (4 : Int32) → (K x3_155 A_152 L_153))) ∧ (¬ r_148 = r_151 → (False)))))))))
def v_law_op_17 (xs : Nat → Int32) (Ln : Nat) (K : Int32 → xM → xL → Prop) (x3 : Int32) (A : xM) (L : xL) : Prop := vp_in (x3 + (1 : Int32)) Ln ∧ (vp_in (x3 + (2 : Int32)) Ln ∧ (v_X5_most (xs (x3 + (1 : Int32)).toNatClampNeg) (xs (x3 + (2 : Int32)).toNatClampNeg) A L (fun (r_158 : Int32) (A_159 : xM) (L_160 : xL) => (v_X6_most (xs (x3 + (1 : Int32)).toNatClampNeg) (xs (x3 + (2 : Int32)).toNatClampNeg) A_159 L_160 (fun (r_161 : Int32) (A_162 : xM) (L_163 : xL) => ((r_158 = r_161 → (∀ x3_165 : Int32, x3_165 = x3 + (4 : Int32) → (K x3_165 A_162 L_163))) ∧ (¬ r_158 = r_161 → (False))))))))
def v_law_op_18 (xs : Nat → Int32) (Ln : Nat) (K : Int32 → xM → xL → Prop) (x3 : Int32) (A : xM) (L : xL) : Prop := vp_in (x3 + (1 : Int32)) Ln ∧ (vp_in (x3 + (2 : Int32)) Ln ∧ (vp_in (x3 + (3 : Int32)) Ln ∧ (v_X5_span (xs (x3 + (1 : Int32)).toNatClampNeg) (xs (x3 + (2 : Int32)).toNatClampNeg) (xs (x3 + (3 : Int32)).toNatClampNeg) A L (fun (r_169 : Int32) (A_170 : xM) (L_171 : xL) => (v_X6_span (xs (x3 + (1 : Int32)).toNatClampNeg) (xs (x3 + (2 : Int32)).toNatClampNeg) (xs (x3 + (3 : Int32)).toNatClampNeg) A_170 L_171 (fun (r_172 : Int32) (A_173 : xM) (L_174 : xL) => ((r_169 = r_172 → (∀ x3_176 : Int32, x3_176 = x3 + (4 : Int32) → (K x3_176 A_173 L_174))) ∧ (¬ r_169 = r_172 → (False)))))))))
def v_law_op_19 (xs : Nat → Int32) (Ln : Nat) (K : Int32 → xM → xL → Prop) (x3 : Int32) (A : xM) (L : xL) : Prop := vp_in (x3 + (1 : Int32)) Ln ∧ (vp_in (x3 + (2 : Int32)) Ln ∧ (v_X5_signs (xs (x3 + (1 : Int32)).toNatClampNeg) (xs (x3 + (2 : Int32)).toNatClampNeg) A L (fun (r_179 : Int32) (A_180 : xM) (L_181 : xL) => (v_X6_signs (xs (x3 + (1 : Int32)).toNatClampNeg) (xs (x3 + (2 : Int32)).toNatClampNeg) A_180 L_181 (fun (r_182 : Int32) (A_183 : xM) (L_184 : xL) => ((r_179 = r_182 → (∀ x3_186 : Int32, x3_186 = x3 + (4 : Int32) → (K x3_186 A_183 L_184))) ∧ (¬ r_179 = r_182 → (False))))))))
def v_law_18 (xs : Nat → Int32) (Ln : Nat) : Nat → Int32 → xM → xL → Prop
  | 0, _, _, _ => False
  | n + 1, x3, A, L => (((nI Ln) - (4 : Int32)) < x3 → (True)) ∧ (¬ ((nI Ln) - (4 : Int32)) < x3 → (vp_in x3 Ln ∧ ((((xs x3.toNatClampNeg) &&& (31 : Int32)).toInt < 0 ∨ 19 < ((xs x3.toNatClampNeg) &&& (31 : Int32)).toInt → (∀ x3_4 : Int32, x3_4 = x3 + (4 : Int32) → (v_law_18 xs Ln n x3_4 A L))) ∧ (((xs x3.toNatClampNeg) &&& (31 : Int32)) = (0 : Int32) → (v_law_op_0 xs Ln (fun x A L => v_law_18 xs Ln n x A L) x3 A L)) ∧ (((xs x3.toNatClampNeg) &&& (31 : Int32)) = (1 : Int32) → (v_law_op_1 xs Ln (fun x A L => v_law_18 xs Ln n x A L) x3 A L)) ∧ (((xs x3.toNatClampNeg) &&& (31 : Int32)) = (2 : Int32) → (v_law_op_2 xs Ln (fun x A L => v_law_18 xs Ln n x A L) x3 A L)) ∧ (((xs x3.toNatClampNeg) &&& (31 : Int32)) = (3 : Int32) → (v_law_op_3 xs Ln (fun x A L => v_law_18 xs Ln n x A L) x3 A L)) ∧ (((xs x3.toNatClampNeg) &&& (31 : Int32)) = (4 : Int32) → (v_law_op_4 xs Ln (fun x A L => v_law_18 xs Ln n x A L) x3 A L)) ∧ (((xs x3.toNatClampNeg) &&& (31 : Int32)) = (5 : Int32) → (v_law_op_5 xs Ln (fun x A L => v_law_18 xs Ln n x A L) x3 A L)) ∧ (((xs x3.toNatClampNeg) &&& (31 : Int32)) = (6 : Int32) → (v_law_op_6 xs Ln (fun x A L => v_law_18 xs Ln n x A L) x3 A L)) ∧ (((xs x3.toNatClampNeg) &&& (31 : Int32)) = (7 : Int32) → (v_law_op_7 xs Ln (fun x A L => v_law_18 xs Ln n x A L) x3 A L)) ∧ (((xs x3.toNatClampNeg) &&& (31 : Int32)) = (8 : Int32) → (v_law_op_8 xs Ln (fun x A L => v_law_18 xs Ln n x A L) x3 A L)) ∧ (((xs x3.toNatClampNeg) &&& (31 : Int32)) = (9 : Int32) → (v_law_op_9 xs Ln (fun x A L => v_law_18 xs Ln n x A L) x3 A L)) ∧ (((xs x3.toNatClampNeg) &&& (31 : Int32)) = (10 : Int32) → (v_law_op_10 xs Ln (fun x A L => v_law_18 xs Ln n x A L) x3 A L)) ∧ (((xs x3.toNatClampNeg) &&& (31 : Int32)) = (11 : Int32) → (v_law_op_11 xs Ln (fun x A L => v_law_18 xs Ln n x A L) x3 A L)) ∧ (((xs x3.toNatClampNeg) &&& (31 : Int32)) = (12 : Int32) → (v_law_op_12 xs Ln (fun x A L => v_law_18 xs Ln n x A L) x3 A L)) ∧ (((xs x3.toNatClampNeg) &&& (31 : Int32)) = (13 : Int32) → (v_law_op_13 xs Ln (fun x A L => v_law_18 xs Ln n x A L) x3 A L)) ∧ (((xs x3.toNatClampNeg) &&& (31 : Int32)) = (14 : Int32) → (v_law_op_14 xs Ln (fun x A L => v_law_18 xs Ln n x A L) x3 A L)) ∧ (((xs x3.toNatClampNeg) &&& (31 : Int32)) = (15 : Int32) → (v_law_op_15 xs Ln (fun x A L => v_law_18 xs Ln n x A L) x3 A L)) ∧ (((xs x3.toNatClampNeg) &&& (31 : Int32)) = (16 : Int32) → (v_law_op_16 xs Ln (fun x A L => v_law_18 xs Ln n x A L) x3 A L)) ∧ (((xs x3.toNatClampNeg) &&& (31 : Int32)) = (17 : Int32) → (v_law_op_17 xs Ln (fun x A L => v_law_18 xs Ln n x A L) x3 A L)) ∧ (((xs x3.toNatClampNeg) &&& (31 : Int32)) = (18 : Int32) → (v_law_op_18 xs Ln (fun x A L => v_law_18 xs Ln n x A L) x3 A L)) ∧ (((xs x3.toNatClampNeg) &&& (31 : Int32)) = (19 : Int32) → (v_law_op_19 xs Ln (fun x A L => v_law_18 xs Ln n x A L) x3 A L)))))
set_option maxHeartbeats 8000000 in
set_option maxRecDepth 100000 in
theorem law_loop {p : Program} {l : Launch} {e : Env} {s : State} {m : MethodId} {below : List Frame} {meth : Method} {c : Code} {G : xGt} {b Ln : Nat} {xs : Nat → Int32} (C0 : lw_At p s m meth c b Ln xs) (hG : xS G s) (hb0 : xb0 G = s.heap.size) : ∀ (n : Nat) (x3 : Int32) (A : xM) (L : xL) (H : Heap) (locs : List Loc) (ls : Array Slot), xW G s.heap A L H locs → lv_has ls 4 [(0, .ref b), (1, .ref (xad G 0)), (2, .ref (xad G 23)), (3, .int x3)] → v_law_18 xs Ln n x3 A L → W p l e room_1 s m #[Value.ref b] below meth c H locs 600000 7302250 (lw_Z below #[Value.ref b] s) (F0 m 18 ls []) := by
  obtain ⟨hx, hb, hr, hml, hown, hts, hX, hbl, hlocks, hgv⟩ := id C0
  have hbA : ¬ xAf G b := fun h => by
    have h1 : xb0 G ≤ b := h
    omega
  intro n
  induction n with
  | zero => intro x3 A L H locs ls hw hl h; exact (show False from h).elim
  | succ n ih =>
    intro x3 A L H locs ls hw hl h
    unfold v_law_18 at h
    refine lv_iload_n hx hb dL_law_18 rfl (lv_at hl 3 rfl) ?_
    refine lv_aload_n hx hb dL_law_19 rfl (lv_at hl 0 rfl) ?_
    refine va_slen hx hb hX hbl hbA hw.2 dL_law_20 ?_
    refine lv_iconst (v := 4) hx hb dL_law_21 (by decide) ?_
    refine lv_isub hx hb dL_law_22 ?_
    refine lv_icmp_gt (tgt := 696) hx hb dL_law_23 (by decide) (fun c_1 => ?_) (fun c_1 => ?_)
    · have h := h.1 c_1
      refine lv_iconst (v := 1) hx hb dL_law_696 (by decide) ?_
      refine va_forget (fun q hq => by rw [← hb0]; exact hw.2.2.2 q hq) ?_
      exact lw_ret hx hb hr hlocks dL_law_697
    · have h := h.2 c_1
      refine lv_aload_n hx hb dL_law_26 rfl (lv_at hl 0 rfl) ?_
      refine lv_iload_n hx hb dL_law_27 rfl (lv_at hl 3 rfl) ?_
      have i_2 := h.1
      have h := h.2
      refine va_sld hx hb hX hbl hbA hw.2 i_2 dL_law_28 ?_
      refine lv_bipush (v := 31) hx hb dL_law_29 (by decide) ?_
      refine lv_iand hx hb dL_law_31 ?_
      by_cases c_3 : ((xs x3.toNatClampNeg) &&& (31 : Int32)).toInt < 0 ∨ 19 < ((xs x3.toNatClampNeg) &&& (31 : Int32)).toInt
      · have h := h.1 c_3
        refine lv_tableOut (tgt := 690) hx hb dL_law_32 c_3 (by decide) ?_
        obtain ⟨x3_4, ex3_4⟩ : ∃ y : Int32, y = x3 + (4 : Int32) := ⟨_, rfl⟩
        have h := h x3_4 ex3_4
        refine lv_iinc (v := x3_4) (lv' := [(3, .int x3_4), (0, .ref b), (1, .ref (xad G 0)), (2, .ref (xad G 23))]) hx hb dL_law_690 hl (k := 3) rfl (by rw [ex3_4]; rfl) (by decide) rfl (fun ls hl => ?_)
        refine lv_goto (tgt := 18) hx hb dL_law_693 (by decide) ?_
        exact ih x3_4 A L _ _ _ hw (lv_sub hl [1, 2, 3, 0] rfl) h
      · rcases (show ((xs x3.toNatClampNeg) &&& (31 : Int32)).toInt = 0 ∨ ((xs x3.toNatClampNeg) &&& (31 : Int32)).toInt = 1 ∨ ((xs x3.toNatClampNeg) &&& (31 : Int32)).toInt = 2 ∨ ((xs x3.toNatClampNeg) &&& (31 : Int32)).toInt = 3 ∨ ((xs x3.toNatClampNeg) &&& (31 : Int32)).toInt = 4 ∨ ((xs x3.toNatClampNeg) &&& (31 : Int32)).toInt = 5 ∨ ((xs x3.toNatClampNeg) &&& (31 : Int32)).toInt = 6 ∨ ((xs x3.toNatClampNeg) &&& (31 : Int32)).toInt = 7 ∨ ((xs x3.toNatClampNeg) &&& (31 : Int32)).toInt = 8 ∨ ((xs x3.toNatClampNeg) &&& (31 : Int32)).toInt = 9 ∨ ((xs x3.toNatClampNeg) &&& (31 : Int32)).toInt = 10 ∨ ((xs x3.toNatClampNeg) &&& (31 : Int32)).toInt = 11 ∨ ((xs x3.toNatClampNeg) &&& (31 : Int32)).toInt = 12 ∨ ((xs x3.toNatClampNeg) &&& (31 : Int32)).toInt = 13 ∨ ((xs x3.toNatClampNeg) &&& (31 : Int32)).toInt = 14 ∨ ((xs x3.toNatClampNeg) &&& (31 : Int32)).toInt = 15 ∨ ((xs x3.toNatClampNeg) &&& (31 : Int32)).toInt = 16 ∨ ((xs x3.toNatClampNeg) &&& (31 : Int32)).toInt = 17 ∨ ((xs x3.toNatClampNeg) &&& (31 : Int32)).toInt = 18 ∨ ((xs x3.toNatClampNeg) &&& (31 : Int32)).toInt = 19 by omega) with c8 | c8 | c8 | c8 | c8 | c8 | c8 | c8 | c8 | c8 | c8 | c8 | c8 | c8 | c8 | c8 | c8 | c8 | c8 | c8
        · have c9 : ((xs x3.toNatClampNeg) &&& (31 : Int32)) = (0 : Int32) := Int32.toInt_inj.mp (c8.trans (by decide))
          have h := h.2.1 c9
          unfold v_law_op_0 at h
          refine lv_tableIn (tgt := 128) hx hb dL_law_32 (by omega) (by omega) (by rw [c8]; rfl) (by decide) ?_
          refine lv_aload_n hx hb dL_law_128 rfl (lv_at hl 1 rfl) ?_
          refine lv_aload_n hx hb dL_law_129 rfl (lv_at hl 0 rfl) ?_
          refine lv_iload_n hx hb dL_law_130 rfl (lv_at hl 3 rfl) ?_
          refine lv_iconst (v := 1) hx hb dL_law_131 (by decide) ?_
          refine lv_iadd hx hb dL_law_132 ?_
          have i_5 := h.1
          have h := h.2
          refine va_sld hx hb hX hbl hbA hw.2 i_5 dL_law_133 ?_
          refine x_calli hG hw (va_runV (As := [.int (xs (x3 + (1 : Int32)).toNatClampNeg)]) (rest := []) ⟨hx, hb, hml, hown, hts⟩ (c_X5_item (l := l) (G := G) h) (cwV 1 hts gT_X5_item rfl rfl rfl (by decide +kernel) ⟨Nat.le_of_ble_eq_true rfl, Nat.le_of_ble_eq_true rfl⟩) (x_preV hG hw xO0 rfl) rfl rfl hl.1 rfl (lv_room (Nat.le_of_ble_eq_true rfl)) dL_law_134 ⟨Nat.le_of_ble_eq_true rfl, Nat.le_of_ble_eq_true rfl⟩) (fun r_6 A_7 L_8 H locs hw h => ?_)
          refine lv_aload_n hx hb dL_law_137 rfl (lv_at hl 2 rfl) ?_
          refine lv_aload_n hx hb dL_law_138 rfl (lv_at hl 0 rfl) ?_
          refine lv_iload_n hx hb dL_law_139 rfl (lv_at hl 3 rfl) ?_
          refine lv_iconst (v := 1) hx hb dL_law_140 (by decide) ?_
          refine lv_iadd hx hb dL_law_141 ?_
          refine va_sld hx hb hX hbl hbA hw.2 i_5 dL_law_142 ?_
          refine x_calli hG hw (va_runV (As := [.int (xs (x3 + (1 : Int32)).toNatClampNeg)]) (rest := [.int r_6]) ⟨hx, hb, hml, hown, hts⟩ (c_X6_item (l := l) (G := G) h) (cwV 1 hts gT_X6_item rfl rfl rfl (by decide +kernel) ⟨Nat.le_of_ble_eq_true rfl, Nat.le_of_ble_eq_true rfl⟩) (x_preV hG hw xO23 rfl) rfl rfl hl.1 rfl (lv_room (Nat.le_of_ble_eq_true rfl)) dL_law_143 ⟨Nat.le_of_ble_eq_true rfl, Nat.le_of_ble_eq_true rfl⟩) (fun r_9 A_10 L_11 H locs hw h => ?_)
          refine lv_icmp_eq (tgt := 690) hx hb dL_law_146 (by decide) (fun c_12 => ?_) (fun c_12 => ?_)
          · have h := h.1 c_12
            obtain ⟨x3_13, ex3_13⟩ : ∃ y : Int32, y = x3 + (4 : Int32) := ⟨_, rfl⟩
            have h := h x3_13 ex3_13
            refine lv_iinc (v := x3_13) (lv' := [(3, .int x3_13), (0, .ref b), (1, .ref (xad G 0)), (2, .ref (xad G 23))]) hx hb dL_law_690 hl (k := 3) rfl (by rw [ex3_13]; rfl) (by decide) rfl (fun ls hl => ?_)
            refine lv_goto (tgt := 18) hx hb dL_law_693 (by decide) ?_
            exact ih x3_13 A_10 L_11 _ _ _ hw (lv_sub hl [1, 2, 3, 0] rfl) h
          · have h := h.2 c_12
            refine lv_iconst (v := 0) hx hb dL_law_149 (by decide) ?_
            exact False.elim h
        · have c9 : ((xs x3.toNatClampNeg) &&& (31 : Int32)) = (1 : Int32) := Int32.toInt_inj.mp (c8.trans (by decide))
          have h := h.2.2.1 c9
          unfold v_law_op_1 at h
          refine lv_tableIn (tgt := 151) hx hb dL_law_32 (by omega) (by omega) (by rw [c8]; rfl) (by decide) ?_
          refine lv_aload_n hx hb dL_law_151 rfl (lv_at hl 1 rfl) ?_
          refine lv_aload_n hx hb dL_law_152 rfl (lv_at hl 0 rfl) ?_
          refine lv_iload_n hx hb dL_law_153 rfl (lv_at hl 3 rfl) ?_
          refine lv_iconst (v := 1) hx hb dL_law_154 (by decide) ?_
          refine lv_iadd hx hb dL_law_155 ?_
          have i_14 := h.1
          have h := h.2
          refine va_sld hx hb hX hbl hbA hw.2 i_14 dL_law_156 ?_
          refine lv_aload_n hx hb dL_law_157 rfl (lv_at hl 0 rfl) ?_
          refine lv_iload_n hx hb dL_law_158 rfl (lv_at hl 3 rfl) ?_
          refine lv_iconst (v := 2) hx hb dL_law_159 (by decide) ?_
          refine lv_iadd hx hb dL_law_160 ?_
          have i_15 := h.1
          have h := h.2
          refine va_sld hx hb hX hbl hbA hw.2 i_15 dL_law_161 ?_
          refine x_calli hG hw (va_runV (As := [.int (xs (x3 + (1 : Int32)).toNatClampNeg), .int (xs (x3 + (2 : Int32)).toNatClampNeg)]) (rest := []) ⟨hx, hb, hml, hown, hts⟩ (c_X5_set (l := l) (G := G) h) (cwV 2 hts gT_X5_set rfl rfl rfl (by decide +kernel) ⟨Nat.le_of_ble_eq_true rfl, Nat.le_of_ble_eq_true rfl⟩) (x_preV hG hw xO0 rfl) rfl rfl hl.1 rfl (lv_room (Nat.le_of_ble_eq_true rfl)) dL_law_162 ⟨Nat.le_of_ble_eq_true rfl, Nat.le_of_ble_eq_true rfl⟩) (fun r_16 A_17 L_18 H locs hw h => ?_)
          refine lv_aload_n hx hb dL_law_165 rfl (lv_at hl 2 rfl) ?_
          refine lv_aload_n hx hb dL_law_166 rfl (lv_at hl 0 rfl) ?_
          refine lv_iload_n hx hb dL_law_167 rfl (lv_at hl 3 rfl) ?_
          refine lv_iconst (v := 1) hx hb dL_law_168 (by decide) ?_
          refine lv_iadd hx hb dL_law_169 ?_
          refine va_sld hx hb hX hbl hbA hw.2 i_14 dL_law_170 ?_
          refine lv_aload_n hx hb dL_law_171 rfl (lv_at hl 0 rfl) ?_
          refine lv_iload_n hx hb dL_law_172 rfl (lv_at hl 3 rfl) ?_
          refine lv_iconst (v := 2) hx hb dL_law_173 (by decide) ?_
          refine lv_iadd hx hb dL_law_174 ?_
          refine va_sld hx hb hX hbl hbA hw.2 i_15 dL_law_175 ?_
          refine x_calli hG hw (va_runV (As := [.int (xs (x3 + (1 : Int32)).toNatClampNeg), .int (xs (x3 + (2 : Int32)).toNatClampNeg)]) (rest := [.int r_16]) ⟨hx, hb, hml, hown, hts⟩ (c_X6_set (l := l) (G := G) h) (cwV 2 hts gT_X6_set rfl rfl rfl (by decide +kernel) ⟨Nat.le_of_ble_eq_true rfl, Nat.le_of_ble_eq_true rfl⟩) (x_preV hG hw xO23 rfl) rfl rfl hl.1 rfl (lv_room (Nat.le_of_ble_eq_true rfl)) dL_law_176 ⟨Nat.le_of_ble_eq_true rfl, Nat.le_of_ble_eq_true rfl⟩) (fun r_19 A_20 L_21 H locs hw h => ?_)
          refine lv_icmp_eq (tgt := 690) hx hb dL_law_179 (by decide) (fun c_22 => ?_) (fun c_22 => ?_)
          · have h := h.1 c_22
            obtain ⟨x3_23, ex3_23⟩ : ∃ y : Int32, y = x3 + (4 : Int32) := ⟨_, rfl⟩
            have h := h x3_23 ex3_23
            refine lv_iinc (v := x3_23) (lv' := [(3, .int x3_23), (0, .ref b), (1, .ref (xad G 0)), (2, .ref (xad G 23))]) hx hb dL_law_690 hl (k := 3) rfl (by rw [ex3_23]; rfl) (by decide) rfl (fun ls hl => ?_)
            refine lv_goto (tgt := 18) hx hb dL_law_693 (by decide) ?_
            exact ih x3_23 A_20 L_21 _ _ _ hw (lv_sub hl [1, 2, 3, 0] rfl) h
          · have h := h.2 c_22
            refine lv_iconst (v := 0) hx hb dL_law_182 (by decide) ?_
            exact False.elim h
        · have c9 : ((xs x3.toNatClampNeg) &&& (31 : Int32)) = (2 : Int32) := Int32.toInt_inj.mp (c8.trans (by decide))
          have h := h.2.2.2.1 c9
          unfold v_law_op_2 at h
          refine lv_tableIn (tgt := 184) hx hb dL_law_32 (by omega) (by omega) (by rw [c8]; rfl) (by decide) ?_
          refine lv_aload_n hx hb dL_law_184 rfl (lv_at hl 1 rfl) ?_
          refine lv_aload_n hx hb dL_law_185 rfl (lv_at hl 0 rfl) ?_
          refine lv_iload_n hx hb dL_law_186 rfl (lv_at hl 3 rfl) ?_
          refine lv_iconst (v := 1) hx hb dL_law_187 (by decide) ?_
          refine lv_iadd hx hb dL_law_188 ?_
          have i_24 := h.1
          have h := h.2
          refine va_sld hx hb hX hbl hbA hw.2 i_24 dL_law_189 ?_
          refine x_calli hG hw (va_runV (As := [.int (xs (x3 + (1 : Int32)).toNatClampNeg)]) (rest := []) ⟨hx, hb, hml, hown, hts⟩ (c_X5_cut (l := l) (G := G) h) (cwV 1 hts gT_X5_cut rfl rfl rfl (by decide +kernel) ⟨Nat.le_of_ble_eq_true rfl, Nat.le_of_ble_eq_true rfl⟩) (x_preV hG hw xO0 rfl) rfl rfl hl.1 rfl (lv_room (Nat.le_of_ble_eq_true rfl)) dL_law_190 ⟨Nat.le_of_ble_eq_true rfl, Nat.le_of_ble_eq_true rfl⟩) (fun r_25 A_26 L_27 H locs hw h => ?_)
          refine lv_aload_n hx hb dL_law_193 rfl (lv_at hl 2 rfl) ?_
          refine lv_aload_n hx hb dL_law_194 rfl (lv_at hl 0 rfl) ?_
          refine lv_iload_n hx hb dL_law_195 rfl (lv_at hl 3 rfl) ?_
          refine lv_iconst (v := 1) hx hb dL_law_196 (by decide) ?_
          refine lv_iadd hx hb dL_law_197 ?_
          refine va_sld hx hb hX hbl hbA hw.2 i_24 dL_law_198 ?_
          refine x_calli hG hw (va_runV (As := [.int (xs (x3 + (1 : Int32)).toNatClampNeg)]) (rest := [.int r_25]) ⟨hx, hb, hml, hown, hts⟩ (c_X6_cut (l := l) (G := G) h) (cwV 1 hts gT_X6_cut rfl rfl rfl (by decide +kernel) ⟨Nat.le_of_ble_eq_true rfl, Nat.le_of_ble_eq_true rfl⟩) (x_preV hG hw xO23 rfl) rfl rfl hl.1 rfl (lv_room (Nat.le_of_ble_eq_true rfl)) dL_law_199 ⟨Nat.le_of_ble_eq_true rfl, Nat.le_of_ble_eq_true rfl⟩) (fun r_28 A_29 L_30 H locs hw h => ?_)
          refine lv_icmp_eq (tgt := 690) hx hb dL_law_202 (by decide) (fun c_31 => ?_) (fun c_31 => ?_)
          · have h := h.1 c_31
            obtain ⟨x3_32, ex3_32⟩ : ∃ y : Int32, y = x3 + (4 : Int32) := ⟨_, rfl⟩
            have h := h x3_32 ex3_32
            refine lv_iinc (v := x3_32) (lv' := [(3, .int x3_32), (0, .ref b), (1, .ref (xad G 0)), (2, .ref (xad G 23))]) hx hb dL_law_690 hl (k := 3) rfl (by rw [ex3_32]; rfl) (by decide) rfl (fun ls hl => ?_)
            refine lv_goto (tgt := 18) hx hb dL_law_693 (by decide) ?_
            exact ih x3_32 A_29 L_30 _ _ _ hw (lv_sub hl [1, 2, 3, 0] rfl) h
          · have h := h.2 c_31
            refine lv_iconst (v := 0) hx hb dL_law_205 (by decide) ?_
            exact False.elim h
        · have c9 : ((xs x3.toNatClampNeg) &&& (31 : Int32)) = (3 : Int32) := Int32.toInt_inj.mp (c8.trans (by decide))
          have h := h.2.2.2.2.1 c9
          unfold v_law_op_3 at h
          refine lv_tableIn (tgt := 207) hx hb dL_law_32 (by omega) (by omega) (by rw [c8]; rfl) (by decide) ?_
          refine lv_aload_n hx hb dL_law_207 rfl (lv_at hl 1 rfl) ?_
          refine lv_aload_n hx hb dL_law_208 rfl (lv_at hl 0 rfl) ?_
          refine lv_iload_n hx hb dL_law_209 rfl (lv_at hl 3 rfl) ?_
          refine lv_iconst (v := 1) hx hb dL_law_210 (by decide) ?_
          refine lv_iadd hx hb dL_law_211 ?_
          have i_33 := h.1
          have h := h.2
          refine va_sld hx hb hX hbl hbA hw.2 i_33 dL_law_212 ?_
          refine lv_aload_n hx hb dL_law_213 rfl (lv_at hl 0 rfl) ?_
          refine lv_iload_n hx hb dL_law_214 rfl (lv_at hl 3 rfl) ?_
          refine lv_iconst (v := 2) hx hb dL_law_215 (by decide) ?_
          refine lv_iadd hx hb dL_law_216 ?_
          have i_34 := h.1
          have h := h.2
          refine va_sld hx hb hX hbl hbA hw.2 i_34 dL_law_217 ?_
          refine x_calli hG hw (va_runV (As := [.int (xs (x3 + (1 : Int32)).toNatClampNeg), .int (xs (x3 + (2 : Int32)).toNatClampNeg)]) (rest := []) ⟨hx, hb, hml, hown, hts⟩ (c_X5_rule (l := l) (G := G) h) (cwV 2 hts gT_X5_rule rfl rfl rfl (by decide +kernel) ⟨Nat.le_of_ble_eq_true rfl, Nat.le_of_ble_eq_true rfl⟩) (x_preV hG hw xO0 rfl) rfl rfl hl.1 rfl (lv_room (Nat.le_of_ble_eq_true rfl)) dL_law_218 ⟨Nat.le_of_ble_eq_true rfl, Nat.le_of_ble_eq_true rfl⟩) (fun r_35 A_36 L_37 H locs hw h => ?_)
          refine lv_aload_n hx hb dL_law_221 rfl (lv_at hl 2 rfl) ?_
          refine lv_aload_n hx hb dL_law_222 rfl (lv_at hl 0 rfl) ?_
          refine lv_iload_n hx hb dL_law_223 rfl (lv_at hl 3 rfl) ?_
          refine lv_iconst (v := 1) hx hb dL_law_224 (by decide) ?_
          refine lv_iadd hx hb dL_law_225 ?_
          refine va_sld hx hb hX hbl hbA hw.2 i_33 dL_law_226 ?_
          refine lv_aload_n hx hb dL_law_227 rfl (lv_at hl 0 rfl) ?_
          refine lv_iload_n hx hb dL_law_228 rfl (lv_at hl 3 rfl) ?_
          refine lv_iconst (v := 2) hx hb dL_law_229 (by decide) ?_
          refine lv_iadd hx hb dL_law_230 ?_
          refine va_sld hx hb hX hbl hbA hw.2 i_34 dL_law_231 ?_
          refine x_calli hG hw (va_runV (As := [.int (xs (x3 + (1 : Int32)).toNatClampNeg), .int (xs (x3 + (2 : Int32)).toNatClampNeg)]) (rest := [.int r_35]) ⟨hx, hb, hml, hown, hts⟩ (c_X6_rule (l := l) (G := G) h) (cwV 2 hts gT_X6_rule rfl rfl rfl (by decide +kernel) ⟨Nat.le_of_ble_eq_true rfl, Nat.le_of_ble_eq_true rfl⟩) (x_preV hG hw xO23 rfl) rfl rfl hl.1 rfl (lv_room (Nat.le_of_ble_eq_true rfl)) dL_law_232 ⟨Nat.le_of_ble_eq_true rfl, Nat.le_of_ble_eq_true rfl⟩) (fun r_38 A_39 L_40 H locs hw h => ?_)
          refine lv_icmp_eq (tgt := 690) hx hb dL_law_235 (by decide) (fun c_41 => ?_) (fun c_41 => ?_)
          · have h := h.1 c_41
            obtain ⟨x3_42, ex3_42⟩ : ∃ y : Int32, y = x3 + (4 : Int32) := ⟨_, rfl⟩
            have h := h x3_42 ex3_42
            refine lv_iinc (v := x3_42) (lv' := [(3, .int x3_42), (0, .ref b), (1, .ref (xad G 0)), (2, .ref (xad G 23))]) hx hb dL_law_690 hl (k := 3) rfl (by rw [ex3_42]; rfl) (by decide) rfl (fun ls hl => ?_)
            refine lv_goto (tgt := 18) hx hb dL_law_693 (by decide) ?_
            exact ih x3_42 A_39 L_40 _ _ _ hw (lv_sub hl [1, 2, 3, 0] rfl) h
          · have h := h.2 c_41
            refine lv_iconst (v := 0) hx hb dL_law_238 (by decide) ?_
            exact False.elim h
        · have c9 : ((xs x3.toNatClampNeg) &&& (31 : Int32)) = (4 : Int32) := Int32.toInt_inj.mp (c8.trans (by decide))
          have h := h.2.2.2.2.2.1 c9
          unfold v_law_op_4 at h
          refine lv_tableIn (tgt := 240) hx hb dL_law_32 (by omega) (by omega) (by rw [c8]; rfl) (by decide) ?_
          refine lv_aload_n hx hb dL_law_240 rfl (lv_at hl 1 rfl) ?_
          refine lv_aload_n hx hb dL_law_241 rfl (lv_at hl 0 rfl) ?_
          refine lv_iload_n hx hb dL_law_242 rfl (lv_at hl 3 rfl) ?_
          refine lv_iconst (v := 1) hx hb dL_law_243 (by decide) ?_
          refine lv_iadd hx hb dL_law_244 ?_
          have i_43 := h.1
          have h := h.2
          refine va_sld hx hb hX hbl hbA hw.2 i_43 dL_law_245 ?_
          refine x_calli hG hw (va_runV (As := [.int (xs (x3 + (1 : Int32)).toNatClampNeg)]) (rest := []) ⟨hx, hb, hml, hown, hts⟩ (c_X5_told (l := l) (G := G) h) (cwV 1 hts gT_X5_told rfl rfl rfl (by decide +kernel) ⟨Nat.le_of_ble_eq_true rfl, Nat.le_of_ble_eq_true rfl⟩) (x_preV hG hw xO0 rfl) rfl rfl hl.1 rfl (lv_room (Nat.le_of_ble_eq_true rfl)) dL_law_246 ⟨Nat.le_of_ble_eq_true rfl, Nat.le_of_ble_eq_true rfl⟩) (fun r_44 A9 L9 H locs hw h => ?_)
          rw [h.2.1, h.2.2] at hw
          have h := h.1
          refine lv_aload_n hx hb dL_law_249 rfl (lv_at hl 2 rfl) ?_
          refine lv_aload_n hx hb dL_law_250 rfl (lv_at hl 0 rfl) ?_
          refine lv_iload_n hx hb dL_law_251 rfl (lv_at hl 3 rfl) ?_
          refine lv_iconst (v := 1) hx hb dL_law_252 (by decide) ?_
          refine lv_iadd hx hb dL_law_253 ?_
          refine va_sld hx hb hX hbl hbA hw.2 i_43 dL_law_254 ?_
          refine x_calli hG hw (va_runV (As := [.int (xs (x3 + (1 : Int32)).toNatClampNeg)]) (rest := [.int r_44]) ⟨hx, hb, hml, hown, hts⟩ (c_X6_told (l := l) (G := G) h) (cwV 1 hts gT_X6_told rfl rfl rfl (by decide +kernel) ⟨Nat.le_of_ble_eq_true rfl, Nat.le_of_ble_eq_true rfl⟩) (x_preV hG hw xO23 rfl) rfl rfl hl.1 rfl (lv_room (Nat.le_of_ble_eq_true rfl)) dL_law_255 ⟨Nat.le_of_ble_eq_true rfl, Nat.le_of_ble_eq_true rfl⟩) (fun r_45 A9 L9 H locs hw h => ?_)
          rw [h.2.1, h.2.2] at hw
          have h := h.1
          refine lv_icmp_eq (tgt := 690) hx hb dL_law_258 (by decide) (fun c_46 => ?_) (fun c_46 => ?_)
          · have h := h.1 c_46
            obtain ⟨x3_47, ex3_47⟩ : ∃ y : Int32, y = x3 + (4 : Int32) := ⟨_, rfl⟩
            have h := h x3_47 ex3_47
            refine lv_iinc (v := x3_47) (lv' := [(3, .int x3_47), (0, .ref b), (1, .ref (xad G 0)), (2, .ref (xad G 23))]) hx hb dL_law_690 hl (k := 3) rfl (by rw [ex3_47]; rfl) (by decide) rfl (fun ls hl => ?_)
            refine lv_goto (tgt := 18) hx hb dL_law_693 (by decide) ?_
            exact ih x3_47 A L _ _ _ hw (lv_sub hl [1, 2, 3, 0] rfl) h
          · have h := h.2 c_46
            refine lv_iconst (v := 0) hx hb dL_law_261 (by decide) ?_
            exact False.elim h
        · have c9 : ((xs x3.toNatClampNeg) &&& (31 : Int32)) = (5 : Int32) := Int32.toInt_inj.mp (c8.trans (by decide))
          have h := h.2.2.2.2.2.2.1 c9
          unfold v_law_op_5 at h
          refine lv_tableIn (tgt := 263) hx hb dL_law_32 (by omega) (by omega) (by rw [c8]; rfl) (by decide) ?_
          refine lv_aload_n hx hb dL_law_263 rfl (lv_at hl 1 rfl) ?_
          refine lv_aload_n hx hb dL_law_264 rfl (lv_at hl 0 rfl) ?_
          refine lv_iload_n hx hb dL_law_265 rfl (lv_at hl 3 rfl) ?_
          refine lv_iconst (v := 1) hx hb dL_law_266 (by decide) ?_
          refine lv_iadd hx hb dL_law_267 ?_
          have i_48 := h.1
          have h := h.2
          refine va_sld hx hb hX hbl hbA hw.2 i_48 dL_law_268 ?_
          refine lv_aload_n hx hb dL_law_269 rfl (lv_at hl 0 rfl) ?_
          refine lv_iload_n hx hb dL_law_270 rfl (lv_at hl 3 rfl) ?_
          refine lv_iconst (v := 2) hx hb dL_law_271 (by decide) ?_
          refine lv_iadd hx hb dL_law_272 ?_
          have i_49 := h.1
          have h := h.2
          refine va_sld hx hb hX hbl hbA hw.2 i_49 dL_law_273 ?_
          refine x_calll hG hw (va_runV (As := [.int (xs (x3 + (1 : Int32)).toNatClampNeg), .int (xs (x3 + (2 : Int32)).toNatClampNeg)]) (rest := []) ⟨hx, hb, hml, hown, hts⟩ (c_X5_ways (l := l) (G := G) h) (cwV 2 hts gT_X5_ways rfl rfl rfl (by decide +kernel) ⟨Nat.le_of_ble_eq_true rfl, Nat.le_of_ble_eq_true rfl⟩) (x_preV hG hw xO0 rfl) rfl rfl hl.1 rfl (lv_room (Nat.le_of_ble_eq_true rfl)) dL_law_274 ⟨Nat.le_of_ble_eq_true rfl, Nat.le_of_ble_eq_true rfl⟩) (fun r_50 A_51 L_52 H locs hw h => ?_)
          refine lv_aload_n hx hb dL_law_277 rfl (lv_at hl 2 rfl) ?_
          refine lv_aload_n hx hb dL_law_278 rfl (lv_at hl 0 rfl) ?_
          refine lv_iload_n hx hb dL_law_279 rfl (lv_at hl 3 rfl) ?_
          refine lv_iconst (v := 1) hx hb dL_law_280 (by decide) ?_
          refine lv_iadd hx hb dL_law_281 ?_
          refine va_sld hx hb hX hbl hbA hw.2 i_48 dL_law_282 ?_
          refine lv_aload_n hx hb dL_law_283 rfl (lv_at hl 0 rfl) ?_
          refine lv_iload_n hx hb dL_law_284 rfl (lv_at hl 3 rfl) ?_
          refine lv_iconst (v := 2) hx hb dL_law_285 (by decide) ?_
          refine lv_iadd hx hb dL_law_286 ?_
          refine va_sld hx hb hX hbl hbA hw.2 i_49 dL_law_287 ?_
          refine x_calll hG hw (va_runV (As := [.int (xs (x3 + (1 : Int32)).toNatClampNeg), .int (xs (x3 + (2 : Int32)).toNatClampNeg)]) (rest := [.long r_50]) ⟨hx, hb, hml, hown, hts⟩ (c_X6_ways (l := l) (G := G) h) (cwV 2 hts gT_X6_ways rfl rfl rfl (by decide +kernel) ⟨Nat.le_of_ble_eq_true rfl, Nat.le_of_ble_eq_true rfl⟩) (x_preV hG hw xO23 rfl) rfl rfl hl.1 rfl (lv_room (Nat.le_of_ble_eq_true rfl)) dL_law_288 ⟨Nat.le_of_ble_eq_true rfl, Nat.le_of_ble_eq_true rfl⟩) (fun r_53 A_54 L_55 H locs hw h => ?_)
          refine W.lcmp hx hb dL_law_291 ?_
          refine lv_if_eq (tgt := 690) hx hb dL_law_292 (by decide) (fun c_56 => ?_) (fun c_56 => ?_)
          · have h := h.1 c_56
            obtain ⟨x3_57, ex3_57⟩ : ∃ y : Int32, y = x3 + (4 : Int32) := ⟨_, rfl⟩
            have h := h x3_57 ex3_57
            refine lv_iinc (v := x3_57) (lv' := [(3, .int x3_57), (0, .ref b), (1, .ref (xad G 0)), (2, .ref (xad G 23))]) hx hb dL_law_690 hl (k := 3) rfl (by rw [ex3_57]; rfl) (by decide) rfl (fun ls hl => ?_)
            refine lv_goto (tgt := 18) hx hb dL_law_693 (by decide) ?_
            exact ih x3_57 A_54 L_55 _ _ _ hw (lv_sub hl [1, 2, 3, 0] rfl) h
          · have h := h.2 c_56
            refine lv_iconst (v := 0) hx hb dL_law_295 (by decide) ?_
            exact False.elim h
        · have c9 : ((xs x3.toNatClampNeg) &&& (31 : Int32)) = (6 : Int32) := Int32.toInt_inj.mp (c8.trans (by decide))
          have h := h.2.2.2.2.2.2.2.1 c9
          unfold v_law_op_6 at h
          refine lv_tableIn (tgt := 297) hx hb dL_law_32 (by omega) (by omega) (by rw [c8]; rfl) (by decide) ?_
          refine lv_aload_n hx hb dL_law_297 rfl (lv_at hl 1 rfl) ?_
          refine lv_aload_n hx hb dL_law_298 rfl (lv_at hl 0 rfl) ?_
          refine lv_iload_n hx hb dL_law_299 rfl (lv_at hl 3 rfl) ?_
          refine lv_iconst (v := 1) hx hb dL_law_300 (by decide) ?_
          refine lv_iadd hx hb dL_law_301 ?_
          have i_58 := h.1
          have h := h.2
          refine va_sld hx hb hX hbl hbA hw.2 i_58 dL_law_302 ?_
          refine x_calll hG hw (va_runV (As := [.int (xs (x3 + (1 : Int32)).toNatClampNeg)]) (rest := []) ⟨hx, hb, hml, hown, hts⟩ (c_X5_all (l := l) (G := G) h) (cwV 1 hts gT_X5_all rfl rfl rfl (by decide +kernel) ⟨Nat.le_of_ble_eq_true rfl, Nat.le_of_ble_eq_true rfl⟩) (x_preV hG hw xO0 rfl) rfl rfl hl.1 rfl (lv_room (Nat.le_of_ble_eq_true rfl)) dL_law_303 ⟨Nat.le_of_ble_eq_true rfl, Nat.le_of_ble_eq_true rfl⟩) (fun r_59 A_60 L_61 H locs hw h => ?_)
          refine lv_aload_n hx hb dL_law_306 rfl (lv_at hl 2 rfl) ?_
          refine lv_aload_n hx hb dL_law_307 rfl (lv_at hl 0 rfl) ?_
          refine lv_iload_n hx hb dL_law_308 rfl (lv_at hl 3 rfl) ?_
          refine lv_iconst (v := 1) hx hb dL_law_309 (by decide) ?_
          refine lv_iadd hx hb dL_law_310 ?_
          refine va_sld hx hb hX hbl hbA hw.2 i_58 dL_law_311 ?_
          refine x_calll hG hw (va_runV (As := [.int (xs (x3 + (1 : Int32)).toNatClampNeg)]) (rest := [.long r_59]) ⟨hx, hb, hml, hown, hts⟩ (c_X6_all (l := l) (G := G) h) (cwV 1 hts gT_X6_all rfl rfl rfl (by decide +kernel) ⟨Nat.le_of_ble_eq_true rfl, Nat.le_of_ble_eq_true rfl⟩) (x_preV hG hw xO23 rfl) rfl rfl hl.1 rfl (lv_room (Nat.le_of_ble_eq_true rfl)) dL_law_312 ⟨Nat.le_of_ble_eq_true rfl, Nat.le_of_ble_eq_true rfl⟩) (fun r_62 A_63 L_64 H locs hw h => ?_)
          refine W.lcmp hx hb dL_law_315 ?_
          refine lv_if_eq (tgt := 690) hx hb dL_law_316 (by decide) (fun c_65 => ?_) (fun c_65 => ?_)
          · have h := h.1 c_65
            obtain ⟨x3_66, ex3_66⟩ : ∃ y : Int32, y = x3 + (4 : Int32) := ⟨_, rfl⟩
            have h := h x3_66 ex3_66
            refine lv_iinc (v := x3_66) (lv' := [(3, .int x3_66), (0, .ref b), (1, .ref (xad G 0)), (2, .ref (xad G 23))]) hx hb dL_law_690 hl (k := 3) rfl (by rw [ex3_66]; rfl) (by decide) rfl (fun ls hl => ?_)
            refine lv_goto (tgt := 18) hx hb dL_law_693 (by decide) ?_
            exact ih x3_66 A_63 L_64 _ _ _ hw (lv_sub hl [1, 2, 3, 0] rfl) h
          · have h := h.2 c_65
            refine lv_iconst (v := 0) hx hb dL_law_319 (by decide) ?_
            exact False.elim h
        · have c9 : ((xs x3.toNatClampNeg) &&& (31 : Int32)) = (7 : Int32) := Int32.toInt_inj.mp (c8.trans (by decide))
          have h := h.2.2.2.2.2.2.2.2.1 c9
          unfold v_law_op_7 at h
          refine lv_tableIn (tgt := 321) hx hb dL_law_32 (by omega) (by omega) (by rw [c8]; rfl) (by decide) ?_
          refine lv_aload_n hx hb dL_law_321 rfl (lv_at hl 1 rfl) ?_
          refine lv_aload_n hx hb dL_law_322 rfl (lv_at hl 0 rfl) ?_
          refine lv_iload_n hx hb dL_law_323 rfl (lv_at hl 3 rfl) ?_
          refine lv_iconst (v := 1) hx hb dL_law_324 (by decide) ?_
          refine lv_iadd hx hb dL_law_325 ?_
          have i_67 := h.1
          have h := h.2
          refine va_sld hx hb hX hbl hbA hw.2 i_67 dL_law_326 ?_
          refine x_calli hG hw (va_runV (As := [.int (xs (x3 + (1 : Int32)).toNatClampNeg)]) (rest := []) ⟨hx, hb, hml, hown, hts⟩ (c_X5_reached (l := l) (G := G) h) (cwV 1 hts gT_X5_reached rfl rfl rfl (by decide +kernel) ⟨Nat.le_of_ble_eq_true rfl, Nat.le_of_ble_eq_true rfl⟩) (x_preV hG hw xO0 rfl) rfl rfl hl.1 rfl (lv_room (Nat.le_of_ble_eq_true rfl)) dL_law_327 ⟨Nat.le_of_ble_eq_true rfl, Nat.le_of_ble_eq_true rfl⟩) (fun r_68 A_69 L_70 H locs hw h => ?_)
          refine lv_aload_n hx hb dL_law_330 rfl (lv_at hl 2 rfl) ?_
          refine lv_aload_n hx hb dL_law_331 rfl (lv_at hl 0 rfl) ?_
          refine lv_iload_n hx hb dL_law_332 rfl (lv_at hl 3 rfl) ?_
          refine lv_iconst (v := 1) hx hb dL_law_333 (by decide) ?_
          refine lv_iadd hx hb dL_law_334 ?_
          refine va_sld hx hb hX hbl hbA hw.2 i_67 dL_law_335 ?_
          refine x_calli hG hw (va_runV (As := [.int (xs (x3 + (1 : Int32)).toNatClampNeg)]) (rest := [.int r_68]) ⟨hx, hb, hml, hown, hts⟩ (c_X6_reached (l := l) (G := G) h) (cwV 1 hts gT_X6_reached rfl rfl rfl (by decide +kernel) ⟨Nat.le_of_ble_eq_true rfl, Nat.le_of_ble_eq_true rfl⟩) (x_preV hG hw xO23 rfl) rfl rfl hl.1 rfl (lv_room (Nat.le_of_ble_eq_true rfl)) dL_law_336 ⟨Nat.le_of_ble_eq_true rfl, Nat.le_of_ble_eq_true rfl⟩) (fun r_71 A_72 L_73 H locs hw h => ?_)
          refine lv_icmp_eq (tgt := 690) hx hb dL_law_339 (by decide) (fun c_74 => ?_) (fun c_74 => ?_)
          · have h := h.1 c_74
            obtain ⟨x3_75, ex3_75⟩ : ∃ y : Int32, y = x3 + (4 : Int32) := ⟨_, rfl⟩
            have h := h x3_75 ex3_75
            refine lv_iinc (v := x3_75) (lv' := [(3, .int x3_75), (0, .ref b), (1, .ref (xad G 0)), (2, .ref (xad G 23))]) hx hb dL_law_690 hl (k := 3) rfl (by rw [ex3_75]; rfl) (by decide) rfl (fun ls hl => ?_)
            refine lv_goto (tgt := 18) hx hb dL_law_693 (by decide) ?_
            exact ih x3_75 A_72 L_73 _ _ _ hw (lv_sub hl [1, 2, 3, 0] rfl) h
          · have h := h.2 c_74
            refine lv_iconst (v := 0) hx hb dL_law_342 (by decide) ?_
            exact False.elim h
        · have c9 : ((xs x3.toNatClampNeg) &&& (31 : Int32)) = (8 : Int32) := Int32.toInt_inj.mp (c8.trans (by decide))
          have h := h.2.2.2.2.2.2.2.2.2.1 c9
          unfold v_law_op_8 at h
          refine lv_tableIn (tgt := 344) hx hb dL_law_32 (by omega) (by omega) (by rw [c8]; rfl) (by decide) ?_
          refine lv_aload_n hx hb dL_law_344 rfl (lv_at hl 1 rfl) ?_
          refine lv_aload_n hx hb dL_law_345 rfl (lv_at hl 0 rfl) ?_
          refine lv_iload_n hx hb dL_law_346 rfl (lv_at hl 3 rfl) ?_
          refine lv_iconst (v := 1) hx hb dL_law_347 (by decide) ?_
          refine lv_iadd hx hb dL_law_348 ?_
          have i_76 := h.1
          have h := h.2
          refine va_sld hx hb hX hbl hbA hw.2 i_76 dL_law_349 ?_
          refine lv_aload_n hx hb dL_law_350 rfl (lv_at hl 0 rfl) ?_
          refine lv_iload_n hx hb dL_law_351 rfl (lv_at hl 3 rfl) ?_
          refine lv_iconst (v := 2) hx hb dL_law_352 (by decide) ?_
          refine lv_iadd hx hb dL_law_353 ?_
          have i_77 := h.1
          have h := h.2
          refine va_sld hx hb hX hbl hbA hw.2 i_77 dL_law_354 ?_
          refine x_calli hG hw (va_runV (As := [.int (xs (x3 + (1 : Int32)).toNatClampNeg), .int (xs (x3 + (2 : Int32)).toNatClampNeg)]) (rest := []) ⟨hx, hb, hml, hown, hts⟩ (c_X5_value (l := l) (G := G) h) (cwV 2 hts gT_X5_value rfl rfl rfl (by decide +kernel) ⟨Nat.le_of_ble_eq_true rfl, Nat.le_of_ble_eq_true rfl⟩) (x_preV hG hw xO0 rfl) rfl rfl hl.1 rfl (lv_room (Nat.le_of_ble_eq_true rfl)) dL_law_355 ⟨Nat.le_of_ble_eq_true rfl, Nat.le_of_ble_eq_true rfl⟩) (fun r_78 A_79 L_80 H locs hw h => ?_)
          refine lv_aload_n hx hb dL_law_358 rfl (lv_at hl 2 rfl) ?_
          refine lv_aload_n hx hb dL_law_359 rfl (lv_at hl 0 rfl) ?_
          refine lv_iload_n hx hb dL_law_360 rfl (lv_at hl 3 rfl) ?_
          refine lv_iconst (v := 1) hx hb dL_law_361 (by decide) ?_
          refine lv_iadd hx hb dL_law_362 ?_
          refine va_sld hx hb hX hbl hbA hw.2 i_76 dL_law_363 ?_
          refine lv_aload_n hx hb dL_law_364 rfl (lv_at hl 0 rfl) ?_
          refine lv_iload_n hx hb dL_law_365 rfl (lv_at hl 3 rfl) ?_
          refine lv_iconst (v := 2) hx hb dL_law_366 (by decide) ?_
          refine lv_iadd hx hb dL_law_367 ?_
          refine va_sld hx hb hX hbl hbA hw.2 i_77 dL_law_368 ?_
          refine x_calli hG hw (va_runV (As := [.int (xs (x3 + (1 : Int32)).toNatClampNeg), .int (xs (x3 + (2 : Int32)).toNatClampNeg)]) (rest := [.int r_78]) ⟨hx, hb, hml, hown, hts⟩ (c_X6_value (l := l) (G := G) h) (cwV 2 hts gT_X6_value rfl rfl rfl (by decide +kernel) ⟨Nat.le_of_ble_eq_true rfl, Nat.le_of_ble_eq_true rfl⟩) (x_preV hG hw xO23 rfl) rfl rfl hl.1 rfl (lv_room (Nat.le_of_ble_eq_true rfl)) dL_law_369 ⟨Nat.le_of_ble_eq_true rfl, Nat.le_of_ble_eq_true rfl⟩) (fun r_81 A_82 L_83 H locs hw h => ?_)
          refine lv_icmp_eq (tgt := 690) hx hb dL_law_372 (by decide) (fun c_84 => ?_) (fun c_84 => ?_)
          · have h := h.1 c_84
            obtain ⟨x3_85, ex3_85⟩ : ∃ y : Int32, y = x3 + (4 : Int32) := ⟨_, rfl⟩
            have h := h x3_85 ex3_85
            refine lv_iinc (v := x3_85) (lv' := [(3, .int x3_85), (0, .ref b), (1, .ref (xad G 0)), (2, .ref (xad G 23))]) hx hb dL_law_690 hl (k := 3) rfl (by rw [ex3_85]; rfl) (by decide) rfl (fun ls hl => ?_)
            refine lv_goto (tgt := 18) hx hb dL_law_693 (by decide) ?_
            exact ih x3_85 A_82 L_83 _ _ _ hw (lv_sub hl [1, 2, 3, 0] rfl) h
          · have h := h.2 c_84
            refine lv_iconst (v := 0) hx hb dL_law_375 (by decide) ?_
            exact False.elim h
        · have c9 : ((xs x3.toNatClampNeg) &&& (31 : Int32)) = (9 : Int32) := Int32.toInt_inj.mp (c8.trans (by decide))
          have h := h.2.2.2.2.2.2.2.2.2.2.1 c9
          unfold v_law_op_9 at h
          refine lv_tableIn (tgt := 377) hx hb dL_law_32 (by omega) (by omega) (by rw [c8]; rfl) (by decide) ?_
          refine lv_aload_n hx hb dL_law_377 rfl (lv_at hl 1 rfl) ?_
          refine x_calli hG hw (va_runV (As := []) (rest := []) ⟨hx, hb, hml, hown, hts⟩ (c_X5_missing (l := l) (G := G) h) (cwV 0 hts gT_X5_missing rfl rfl rfl (by decide +kernel) ⟨Nat.le_of_ble_eq_true rfl, Nat.le_of_ble_eq_true rfl⟩) (x_preV hG hw xO0 rfl) rfl rfl hl.1 rfl (lv_room (Nat.le_of_ble_eq_true rfl)) dL_law_378 ⟨Nat.le_of_ble_eq_true rfl, Nat.le_of_ble_eq_true rfl⟩) (fun r_86 A_87 L_88 H locs hw h => ?_)
          refine lv_aload_n hx hb dL_law_381 rfl (lv_at hl 2 rfl) ?_
          refine x_calli hG hw (va_runV (As := []) (rest := [.int r_86]) ⟨hx, hb, hml, hown, hts⟩ (c_X6_missing (l := l) (G := G) h) (cwV 0 hts gT_X6_missing rfl rfl rfl (by decide +kernel) ⟨Nat.le_of_ble_eq_true rfl, Nat.le_of_ble_eq_true rfl⟩) (x_preV hG hw xO23 rfl) rfl rfl hl.1 rfl (lv_room (Nat.le_of_ble_eq_true rfl)) dL_law_382 ⟨Nat.le_of_ble_eq_true rfl, Nat.le_of_ble_eq_true rfl⟩) (fun r_89 A_90 L_91 H locs hw h => ?_)
          refine lv_icmp_eq (tgt := 690) hx hb dL_law_385 (by decide) (fun c_92 => ?_) (fun c_92 => ?_)
          · have h := h.1 c_92
            obtain ⟨x3_93, ex3_93⟩ : ∃ y : Int32, y = x3 + (4 : Int32) := ⟨_, rfl⟩
            have h := h x3_93 ex3_93
            refine lv_iinc (v := x3_93) (lv' := [(3, .int x3_93), (0, .ref b), (1, .ref (xad G 0)), (2, .ref (xad G 23))]) hx hb dL_law_690 hl (k := 3) rfl (by rw [ex3_93]; rfl) (by decide) rfl (fun ls hl => ?_)
            refine lv_goto (tgt := 18) hx hb dL_law_693 (by decide) ?_
            exact ih x3_93 A_90 L_91 _ _ _ hw (lv_sub hl [1, 2, 3, 0] rfl) h
          · have h := h.2 c_92
            refine lv_iconst (v := 0) hx hb dL_law_388 (by decide) ?_
            exact False.elim h
        · have c9 : ((xs x3.toNatClampNeg) &&& (31 : Int32)) = (10 : Int32) := Int32.toInt_inj.mp (c8.trans (by decide))
          have h := h.2.2.2.2.2.2.2.2.2.2.2.1 c9
          unfold v_law_op_10 at h
          refine lv_tableIn (tgt := 390) hx hb dL_law_32 (by omega) (by omega) (by rw [c8]; rfl) (by decide) ?_
          refine lv_aload_n hx hb dL_law_390 rfl (lv_at hl 1 rfl) ?_
          refine lv_aload_n hx hb dL_law_391 rfl (lv_at hl 0 rfl) ?_
          refine lv_iload_n hx hb dL_law_392 rfl (lv_at hl 3 rfl) ?_
          refine lv_iconst (v := 1) hx hb dL_law_393 (by decide) ?_
          refine lv_iadd hx hb dL_law_394 ?_
          have i_94 := h.1
          have h := h.2
          refine va_sld hx hb hX hbl hbA hw.2 i_94 dL_law_395 ?_
          refine lv_aload_n hx hb dL_law_396 rfl (lv_at hl 0 rfl) ?_
          refine lv_iload_n hx hb dL_law_397 rfl (lv_at hl 3 rfl) ?_
          refine lv_iconst (v := 2) hx hb dL_law_398 (by decide) ?_
          refine lv_iadd hx hb dL_law_399 ?_
          have i_95 := h.1
          have h := h.2
          refine va_sld hx hb hX hbl hbA hw.2 i_95 dL_law_400 ?_
          refine x_calli hG hw (va_runV (As := [.int (xs (x3 + (1 : Int32)).toNatClampNeg), .int (xs (x3 + (2 : Int32)).toNatClampNeg)]) (rest := []) ⟨hx, hb, hml, hown, hts⟩ (c_X5_aim (l := l) (G := G) h) (cwV 2 hts gT_X5_aim rfl rfl rfl (by decide +kernel) ⟨Nat.le_of_ble_eq_true rfl, Nat.le_of_ble_eq_true rfl⟩) (x_preV hG hw xO0 rfl) rfl rfl hl.1 rfl (lv_room (Nat.le_of_ble_eq_true rfl)) dL_law_401 ⟨Nat.le_of_ble_eq_true rfl, Nat.le_of_ble_eq_true rfl⟩) (fun r_96 A_97 L_98 H locs hw h => ?_)
          refine lv_aload_n hx hb dL_law_404 rfl (lv_at hl 2 rfl) ?_
          refine lv_aload_n hx hb dL_law_405 rfl (lv_at hl 0 rfl) ?_
          refine lv_iload_n hx hb dL_law_406 rfl (lv_at hl 3 rfl) ?_
          refine lv_iconst (v := 1) hx hb dL_law_407 (by decide) ?_
          refine lv_iadd hx hb dL_law_408 ?_
          refine va_sld hx hb hX hbl hbA hw.2 i_94 dL_law_409 ?_
          refine lv_aload_n hx hb dL_law_410 rfl (lv_at hl 0 rfl) ?_
          refine lv_iload_n hx hb dL_law_411 rfl (lv_at hl 3 rfl) ?_
          refine lv_iconst (v := 2) hx hb dL_law_412 (by decide) ?_
          refine lv_iadd hx hb dL_law_413 ?_
          refine va_sld hx hb hX hbl hbA hw.2 i_95 dL_law_414 ?_
          refine x_calli hG hw (va_runV (As := [.int (xs (x3 + (1 : Int32)).toNatClampNeg), .int (xs (x3 + (2 : Int32)).toNatClampNeg)]) (rest := [.int r_96]) ⟨hx, hb, hml, hown, hts⟩ (c_X6_aim (l := l) (G := G) h) (cwV 2 hts gT_X6_aim rfl rfl rfl (by decide +kernel) ⟨Nat.le_of_ble_eq_true rfl, Nat.le_of_ble_eq_true rfl⟩) (x_preV hG hw xO23 rfl) rfl rfl hl.1 rfl (lv_room (Nat.le_of_ble_eq_true rfl)) dL_law_415 ⟨Nat.le_of_ble_eq_true rfl, Nat.le_of_ble_eq_true rfl⟩) (fun r_99 A_100 L_101 H locs hw h => ?_)
          refine lv_icmp_eq (tgt := 690) hx hb dL_law_418 (by decide) (fun c_102 => ?_) (fun c_102 => ?_)
          · have h := h.1 c_102
            obtain ⟨x3_103, ex3_103⟩ : ∃ y : Int32, y = x3 + (4 : Int32) := ⟨_, rfl⟩
            have h := h x3_103 ex3_103
            refine lv_iinc (v := x3_103) (lv' := [(3, .int x3_103), (0, .ref b), (1, .ref (xad G 0)), (2, .ref (xad G 23))]) hx hb dL_law_690 hl (k := 3) rfl (by rw [ex3_103]; rfl) (by decide) rfl (fun ls hl => ?_)
            refine lv_goto (tgt := 18) hx hb dL_law_693 (by decide) ?_
            exact ih x3_103 A_100 L_101 _ _ _ hw (lv_sub hl [1, 2, 3, 0] rfl) h
          · have h := h.2 c_102
            refine lv_iconst (v := 0) hx hb dL_law_421 (by decide) ?_
            exact False.elim h
        · have c9 : ((xs x3.toNatClampNeg) &&& (31 : Int32)) = (11 : Int32) := Int32.toInt_inj.mp (c8.trans (by decide))
          have h := h.2.2.2.2.2.2.2.2.2.2.2.2.1 c9
          unfold v_law_op_11 at h
          refine lv_tableIn (tgt := 423) hx hb dL_law_32 (by omega) (by omega) (by rw [c8]; rfl) (by decide) ?_
          refine lv_aload_n hx hb dL_law_423 rfl (lv_at hl 1 rfl) ?_
          refine lv_aload_n hx hb dL_law_424 rfl (lv_at hl 0 rfl) ?_
          refine lv_iload_n hx hb dL_law_425 rfl (lv_at hl 3 rfl) ?_
          refine lv_iconst (v := 1) hx hb dL_law_426 (by decide) ?_
          refine lv_iadd hx hb dL_law_427 ?_
          have i_104 := h.1
          have h := h.2
          refine va_sld hx hb hX hbl hbA hw.2 i_104 dL_law_428 ?_
          refine x_calli hG hw (va_runV (As := [.int (xs (x3 + (1 : Int32)).toNatClampNeg)]) (rest := []) ⟨hx, hb, hml, hown, hts⟩ (c_X5_print (l := l) (G := G) h) (cwV 1 hts gT_X5_print rfl rfl rfl (by decide +kernel) ⟨Nat.le_of_ble_eq_true rfl, Nat.le_of_ble_eq_true rfl⟩) (x_preV hG hw xO0 rfl) rfl rfl hl.1 rfl (lv_room (Nat.le_of_ble_eq_true rfl)) dL_law_429 ⟨Nat.le_of_ble_eq_true rfl, Nat.le_of_ble_eq_true rfl⟩) (fun r_105 A_106 L_107 H locs hw h => ?_)
          refine lv_aload_n hx hb dL_law_432 rfl (lv_at hl 2 rfl) ?_
          refine lv_aload_n hx hb dL_law_433 rfl (lv_at hl 0 rfl) ?_
          refine lv_iload_n hx hb dL_law_434 rfl (lv_at hl 3 rfl) ?_
          refine lv_iconst (v := 1) hx hb dL_law_435 (by decide) ?_
          refine lv_iadd hx hb dL_law_436 ?_
          refine va_sld hx hb hX hbl hbA hw.2 i_104 dL_law_437 ?_
          refine x_calli hG hw (va_runV (As := [.int (xs (x3 + (1 : Int32)).toNatClampNeg)]) (rest := [.int r_105]) ⟨hx, hb, hml, hown, hts⟩ (c_X6_print (l := l) (G := G) h) (cwV 1 hts gT_X6_print rfl rfl rfl (by decide +kernel) ⟨Nat.le_of_ble_eq_true rfl, Nat.le_of_ble_eq_true rfl⟩) (x_preV hG hw xO23 rfl) rfl rfl hl.1 rfl (lv_room (Nat.le_of_ble_eq_true rfl)) dL_law_438 ⟨Nat.le_of_ble_eq_true rfl, Nat.le_of_ble_eq_true rfl⟩) (fun r_108 A_109 L_110 H locs hw h => ?_)
          refine lv_icmp_eq (tgt := 690) hx hb dL_law_441 (by decide) (fun c_111 => ?_) (fun c_111 => ?_)
          · have h := h.1 c_111
            obtain ⟨x3_112, ex3_112⟩ : ∃ y : Int32, y = x3 + (4 : Int32) := ⟨_, rfl⟩
            have h := h x3_112 ex3_112
            refine lv_iinc (v := x3_112) (lv' := [(3, .int x3_112), (0, .ref b), (1, .ref (xad G 0)), (2, .ref (xad G 23))]) hx hb dL_law_690 hl (k := 3) rfl (by rw [ex3_112]; rfl) (by decide) rfl (fun ls hl => ?_)
            refine lv_goto (tgt := 18) hx hb dL_law_693 (by decide) ?_
            exact ih x3_112 A_109 L_110 _ _ _ hw (lv_sub hl [1, 2, 3, 0] rfl) h
          · have h := h.2 c_111
            refine lv_iconst (v := 0) hx hb dL_law_444 (by decide) ?_
            exact False.elim h
        · have c9 : ((xs x3.toNatClampNeg) &&& (31 : Int32)) = (12 : Int32) := Int32.toInt_inj.mp (c8.trans (by decide))
          have h := h.2.2.2.2.2.2.2.2.2.2.2.2.2.1 c9
          unfold v_law_op_12 at h
          refine lv_tableIn (tgt := 446) hx hb dL_law_32 (by omega) (by omega) (by rw [c8]; rfl) (by decide) ?_
          refine lv_aload_n hx hb dL_law_446 rfl (lv_at hl 1 rfl) ?_
          refine lv_aload_n hx hb dL_law_447 rfl (lv_at hl 0 rfl) ?_
          refine lv_iload_n hx hb dL_law_448 rfl (lv_at hl 3 rfl) ?_
          refine lv_iconst (v := 1) hx hb dL_law_449 (by decide) ?_
          refine lv_iadd hx hb dL_law_450 ?_
          have i_113 := h.1
          have h := h.2
          refine va_sld hx hb hX hbl hbA hw.2 i_113 dL_law_451 ?_
          refine lv_aload_n hx hb dL_law_452 rfl (lv_at hl 0 rfl) ?_
          refine lv_iload_n hx hb dL_law_453 rfl (lv_at hl 3 rfl) ?_
          refine lv_iconst (v := 2) hx hb dL_law_454 (by decide) ?_
          refine lv_iadd hx hb dL_law_455 ?_
          have i_114 := h.1
          have h := h.2
          refine va_sld hx hb hX hbl hbA hw.2 i_114 dL_law_456 ?_
          refine x_calli hG hw (va_runV (As := [.int (xs (x3 + (1 : Int32)).toNatClampNeg), .int (xs (x3 + (2 : Int32)).toNatClampNeg)]) (rest := []) ⟨hx, hb, hml, hown, hts⟩ (c_X5_printOf (l := l) (G := G) h) (cwV 2 hts gT_X5_printOf rfl rfl rfl (by decide +kernel) ⟨Nat.le_of_ble_eq_true rfl, Nat.le_of_ble_eq_true rfl⟩) (x_preV hG hw xO0 rfl) rfl rfl hl.1 rfl (lv_room (Nat.le_of_ble_eq_true rfl)) dL_law_457 ⟨Nat.le_of_ble_eq_true rfl, Nat.le_of_ble_eq_true rfl⟩) (fun r_115 A_116 L_117 H locs hw h => ?_)
          refine lv_aload_n hx hb dL_law_460 rfl (lv_at hl 2 rfl) ?_
          refine lv_aload_n hx hb dL_law_461 rfl (lv_at hl 0 rfl) ?_
          refine lv_iload_n hx hb dL_law_462 rfl (lv_at hl 3 rfl) ?_
          refine lv_iconst (v := 1) hx hb dL_law_463 (by decide) ?_
          refine lv_iadd hx hb dL_law_464 ?_
          refine va_sld hx hb hX hbl hbA hw.2 i_113 dL_law_465 ?_
          refine lv_aload_n hx hb dL_law_466 rfl (lv_at hl 0 rfl) ?_
          refine lv_iload_n hx hb dL_law_467 rfl (lv_at hl 3 rfl) ?_
          refine lv_iconst (v := 2) hx hb dL_law_468 (by decide) ?_
          refine lv_iadd hx hb dL_law_469 ?_
          refine va_sld hx hb hX hbl hbA hw.2 i_114 dL_law_470 ?_
          refine x_calli hG hw (va_runV (As := [.int (xs (x3 + (1 : Int32)).toNatClampNeg), .int (xs (x3 + (2 : Int32)).toNatClampNeg)]) (rest := [.int r_115]) ⟨hx, hb, hml, hown, hts⟩ (c_X6_printOf (l := l) (G := G) h) (cwV 2 hts gT_X6_printOf rfl rfl rfl (by decide +kernel) ⟨Nat.le_of_ble_eq_true rfl, Nat.le_of_ble_eq_true rfl⟩) (x_preV hG hw xO23 rfl) rfl rfl hl.1 rfl (lv_room (Nat.le_of_ble_eq_true rfl)) dL_law_471 ⟨Nat.le_of_ble_eq_true rfl, Nat.le_of_ble_eq_true rfl⟩) (fun r_118 A_119 L_120 H locs hw h => ?_)
          refine lv_icmp_eq (tgt := 690) hx hb dL_law_474 (by decide) (fun c_121 => ?_) (fun c_121 => ?_)
          · have h := h.1 c_121
            obtain ⟨x3_122, ex3_122⟩ : ∃ y : Int32, y = x3 + (4 : Int32) := ⟨_, rfl⟩
            have h := h x3_122 ex3_122
            refine lv_iinc (v := x3_122) (lv' := [(3, .int x3_122), (0, .ref b), (1, .ref (xad G 0)), (2, .ref (xad G 23))]) hx hb dL_law_690 hl (k := 3) rfl (by rw [ex3_122]; rfl) (by decide) rfl (fun ls hl => ?_)
            refine lv_goto (tgt := 18) hx hb dL_law_693 (by decide) ?_
            exact ih x3_122 A_119 L_120 _ _ _ hw (lv_sub hl [1, 2, 3, 0] rfl) h
          · have h := h.2 c_121
            refine lv_iconst (v := 0) hx hb dL_law_477 (by decide) ?_
            exact False.elim h
        · have c9 : ((xs x3.toNatClampNeg) &&& (31 : Int32)) = (13 : Int32) := Int32.toInt_inj.mp (c8.trans (by decide))
          have h := h.2.2.2.2.2.2.2.2.2.2.2.2.2.2.1 c9
          unfold v_law_op_13 at h
          refine lv_tableIn (tgt := 479) hx hb dL_law_32 (by omega) (by omega) (by rw [c8]; rfl) (by decide) ?_
          refine lv_aload_n hx hb dL_law_479 rfl (lv_at hl 1 rfl) ?_
          refine lv_aload_n hx hb dL_law_480 rfl (lv_at hl 0 rfl) ?_
          refine lv_iload_n hx hb dL_law_481 rfl (lv_at hl 3 rfl) ?_
          refine lv_iconst (v := 1) hx hb dL_law_482 (by decide) ?_
          refine lv_iadd hx hb dL_law_483 ?_
          have i_123 := h.1
          have h := h.2
          refine va_sld hx hb hX hbl hbA hw.2 i_123 dL_law_484 ?_
          refine x_calli hG hw (va_runV (As := [.int (xs (x3 + (1 : Int32)).toNatClampNeg)]) (rest := []) ⟨hx, hb, hml, hown, hts⟩ (c_X5_out (l := l) (G := G) h) (cwV 1 hts gT_X5_out rfl rfl rfl (by decide +kernel) ⟨Nat.le_of_ble_eq_true rfl, Nat.le_of_ble_eq_true rfl⟩) (x_preV hG hw xO0 rfl) rfl rfl hl.1 rfl (lv_room (Nat.le_of_ble_eq_true rfl)) dL_law_485 ⟨Nat.le_of_ble_eq_true rfl, Nat.le_of_ble_eq_true rfl⟩) (fun r_124 A9 L9 H locs hw h => ?_)
          rw [h.2.1, h.2.2] at hw
          have h := h.1
          refine lv_aload_n hx hb dL_law_488 rfl (lv_at hl 2 rfl) ?_
          refine lv_aload_n hx hb dL_law_489 rfl (lv_at hl 0 rfl) ?_
          refine lv_iload_n hx hb dL_law_490 rfl (lv_at hl 3 rfl) ?_
          refine lv_iconst (v := 1) hx hb dL_law_491 (by decide) ?_
          refine lv_iadd hx hb dL_law_492 ?_
          refine va_sld hx hb hX hbl hbA hw.2 i_123 dL_law_493 ?_
          refine x_calli hG hw (va_runV (As := [.int (xs (x3 + (1 : Int32)).toNatClampNeg)]) (rest := [.int r_124]) ⟨hx, hb, hml, hown, hts⟩ (c_X6_out (l := l) (G := G) h) (cwV 1 hts gT_X6_out rfl rfl rfl (by decide +kernel) ⟨Nat.le_of_ble_eq_true rfl, Nat.le_of_ble_eq_true rfl⟩) (x_preV hG hw xO23 rfl) rfl rfl hl.1 rfl (lv_room (Nat.le_of_ble_eq_true rfl)) dL_law_494 ⟨Nat.le_of_ble_eq_true rfl, Nat.le_of_ble_eq_true rfl⟩) (fun r_125 A9 L9 H locs hw h => ?_)
          rw [h.2.1, h.2.2] at hw
          have h := h.1
          refine lv_icmp_eq (tgt := 690) hx hb dL_law_497 (by decide) (fun c_126 => ?_) (fun c_126 => ?_)
          · have h := h.1 c_126
            obtain ⟨x3_127, ex3_127⟩ : ∃ y : Int32, y = x3 + (4 : Int32) := ⟨_, rfl⟩
            have h := h x3_127 ex3_127
            refine lv_iinc (v := x3_127) (lv' := [(3, .int x3_127), (0, .ref b), (1, .ref (xad G 0)), (2, .ref (xad G 23))]) hx hb dL_law_690 hl (k := 3) rfl (by rw [ex3_127]; rfl) (by decide) rfl (fun ls hl => ?_)
            refine lv_goto (tgt := 18) hx hb dL_law_693 (by decide) ?_
            exact ih x3_127 A L _ _ _ hw (lv_sub hl [1, 2, 3, 0] rfl) h
          · have h := h.2 c_126
            refine lv_iconst (v := 0) hx hb dL_law_500 (by decide) ?_
            exact False.elim h
        · have c9 : ((xs x3.toNatClampNeg) &&& (31 : Int32)) = (14 : Int32) := Int32.toInt_inj.mp (c8.trans (by decide))
          have h := h.2.2.2.2.2.2.2.2.2.2.2.2.2.2.2.1 c9
          unfold v_law_op_14 at h
          refine lv_tableIn (tgt := 502) hx hb dL_law_32 (by omega) (by omega) (by rw [c8]; rfl) (by decide) ?_
          refine lv_aload_n hx hb dL_law_502 rfl (lv_at hl 1 rfl) ?_
          refine lv_aload_n hx hb dL_law_503 rfl (lv_at hl 0 rfl) ?_
          refine lv_iload_n hx hb dL_law_504 rfl (lv_at hl 3 rfl) ?_
          refine lv_iconst (v := 1) hx hb dL_law_505 (by decide) ?_
          refine lv_iadd hx hb dL_law_506 ?_
          have i_128 := h.1
          have h := h.2
          refine va_sld hx hb hX hbl hbA hw.2 i_128 dL_law_507 ?_
          refine x_calli hG hw (va_runV (As := [.int (xs (x3 + (1 : Int32)).toNatClampNeg)]) (rest := []) ⟨hx, hb, hml, hown, hts⟩ (c_X5_card (l := l) (G := G) h) (cwV 1 hts gT_X5_card rfl rfl rfl (by decide +kernel) ⟨Nat.le_of_ble_eq_true rfl, Nat.le_of_ble_eq_true rfl⟩) (x_preV hG hw xO0 rfl) rfl rfl hl.1 rfl (lv_room (Nat.le_of_ble_eq_true rfl)) dL_law_508 ⟨Nat.le_of_ble_eq_true rfl, Nat.le_of_ble_eq_true rfl⟩) (fun r_129 A_130 L_131 H locs hw h => ?_)
          refine lv_aload_n hx hb dL_law_511 rfl (lv_at hl 2 rfl) ?_
          refine lv_aload_n hx hb dL_law_512 rfl (lv_at hl 0 rfl) ?_
          refine lv_iload_n hx hb dL_law_513 rfl (lv_at hl 3 rfl) ?_
          refine lv_iconst (v := 1) hx hb dL_law_514 (by decide) ?_
          refine lv_iadd hx hb dL_law_515 ?_
          refine va_sld hx hb hX hbl hbA hw.2 i_128 dL_law_516 ?_
          refine x_calli hG hw (va_runV (As := [.int (xs (x3 + (1 : Int32)).toNatClampNeg)]) (rest := [.int r_129]) ⟨hx, hb, hml, hown, hts⟩ (c_X6_card (l := l) (G := G) h) (cwV 1 hts gT_X6_card rfl rfl rfl (by decide +kernel) ⟨Nat.le_of_ble_eq_true rfl, Nat.le_of_ble_eq_true rfl⟩) (x_preV hG hw xO23 rfl) rfl rfl hl.1 rfl (lv_room (Nat.le_of_ble_eq_true rfl)) dL_law_517 ⟨Nat.le_of_ble_eq_true rfl, Nat.le_of_ble_eq_true rfl⟩) (fun r_132 A_133 L_134 H locs hw h => ?_)
          refine lv_icmp_eq (tgt := 690) hx hb dL_law_520 (by decide) (fun c_135 => ?_) (fun c_135 => ?_)
          · have h := h.1 c_135
            obtain ⟨x3_136, ex3_136⟩ : ∃ y : Int32, y = x3 + (4 : Int32) := ⟨_, rfl⟩
            have h := h x3_136 ex3_136
            refine lv_iinc (v := x3_136) (lv' := [(3, .int x3_136), (0, .ref b), (1, .ref (xad G 0)), (2, .ref (xad G 23))]) hx hb dL_law_690 hl (k := 3) rfl (by rw [ex3_136]; rfl) (by decide) rfl (fun ls hl => ?_)
            refine lv_goto (tgt := 18) hx hb dL_law_693 (by decide) ?_
            exact ih x3_136 A_133 L_134 _ _ _ hw (lv_sub hl [1, 2, 3, 0] rfl) h
          · have h := h.2 c_135
            refine lv_iconst (v := 0) hx hb dL_law_523 (by decide) ?_
            exact False.elim h
        · have c9 : ((xs x3.toNatClampNeg) &&& (31 : Int32)) = (15 : Int32) := Int32.toInt_inj.mp (c8.trans (by decide))
          have h := h.2.2.2.2.2.2.2.2.2.2.2.2.2.2.2.2.1 c9
          unfold v_law_op_15 at h
          refine lv_tableIn (tgt := 525) hx hb dL_law_32 (by omega) (by omega) (by rw [c8]; rfl) (by decide) ?_
          refine lv_aload_n hx hb dL_law_525 rfl (lv_at hl 1 rfl) ?_
          refine x_calli hG hw (va_runV (As := []) (rest := []) ⟨hx, hb, hml, hown, hts⟩ (c_X5_empty (l := l) (G := G) h) (cwV 0 hts gT_X5_empty rfl rfl rfl (by decide +kernel) ⟨Nat.le_of_ble_eq_true rfl, Nat.le_of_ble_eq_true rfl⟩) (x_preV hG hw xO0 rfl) rfl rfl hl.1 rfl (lv_room (Nat.le_of_ble_eq_true rfl)) dL_law_526 ⟨Nat.le_of_ble_eq_true rfl, Nat.le_of_ble_eq_true rfl⟩) (fun r_137 A_138 L_139 H locs hw h => ?_)
          refine lv_aload_n hx hb dL_law_529 rfl (lv_at hl 2 rfl) ?_
          refine x_calli hG hw (va_runV (As := []) (rest := [.int r_137]) ⟨hx, hb, hml, hown, hts⟩ (c_X6_empty (l := l) (G := G) h) (cwV 0 hts gT_X6_empty rfl rfl rfl (by decide +kernel) ⟨Nat.le_of_ble_eq_true rfl, Nat.le_of_ble_eq_true rfl⟩) (x_preV hG hw xO23 rfl) rfl rfl hl.1 rfl (lv_room (Nat.le_of_ble_eq_true rfl)) dL_law_530 ⟨Nat.le_of_ble_eq_true rfl, Nat.le_of_ble_eq_true rfl⟩) (fun r_140 A_141 L_142 H locs hw h => ?_)
          refine lv_icmp_eq (tgt := 690) hx hb dL_law_533 (by decide) (fun c_143 => ?_) (fun c_143 => ?_)
          · have h := h.1 c_143
            obtain ⟨x3_144, ex3_144⟩ : ∃ y : Int32, y = x3 + (4 : Int32) := ⟨_, rfl⟩
            have h := h x3_144 ex3_144
            refine lv_iinc (v := x3_144) (lv' := [(3, .int x3_144), (0, .ref b), (1, .ref (xad G 0)), (2, .ref (xad G 23))]) hx hb dL_law_690 hl (k := 3) rfl (by rw [ex3_144]; rfl) (by decide) rfl (fun ls hl => ?_)
            refine lv_goto (tgt := 18) hx hb dL_law_693 (by decide) ?_
            exact ih x3_144 A_141 L_142 _ _ _ hw (lv_sub hl [1, 2, 3, 0] rfl) h
          · have h := h.2 c_143
            refine lv_iconst (v := 0) hx hb dL_law_536 (by decide) ?_
            exact False.elim h
        · have c9 : ((xs x3.toNatClampNeg) &&& (31 : Int32)) = (16 : Int32) := Int32.toInt_inj.mp (c8.trans (by decide))
          have h := h.2.2.2.2.2.2.2.2.2.2.2.2.2.2.2.2.2.1 c9
          unfold v_law_op_16 at h
          refine lv_tableIn (tgt := 538) hx hb dL_law_32 (by omega) (by omega) (by rw [c8]; rfl) (by decide) ?_
          refine lv_aload_n hx hb dL_law_538 rfl (lv_at hl 1 rfl) ?_
          refine lv_aload_n hx hb dL_law_539 rfl (lv_at hl 0 rfl) ?_
          refine lv_iload_n hx hb dL_law_540 rfl (lv_at hl 3 rfl) ?_
          refine lv_iconst (v := 1) hx hb dL_law_541 (by decide) ?_
          refine lv_iadd hx hb dL_law_542 ?_
          have i_145 := h.1
          have h := h.2
          refine va_sld hx hb hX hbl hbA hw.2 i_145 dL_law_543 ?_
          refine lv_aload_n hx hb dL_law_544 rfl (lv_at hl 0 rfl) ?_
          refine lv_iload_n hx hb dL_law_545 rfl (lv_at hl 3 rfl) ?_
          refine lv_iconst (v := 2) hx hb dL_law_546 (by decide) ?_
          refine lv_iadd hx hb dL_law_547 ?_
          have i_146 := h.1
          have h := h.2
          refine va_sld hx hb hX hbl hbA hw.2 i_146 dL_law_548 ?_
          refine lv_aload_n hx hb dL_law_549 rfl (lv_at hl 0 rfl) ?_
          refine lv_iload_n hx hb dL_law_550 rfl (lv_at hl 3 rfl) ?_
          refine lv_iconst (v := 3) hx hb dL_law_551 (by decide) ?_
          refine lv_iadd hx hb dL_law_552 ?_
          have i_147 := h.1
          have h := h.2
          refine va_sld hx hb hX hbl hbA hw.2 i_147 dL_law_553 ?_
          refine x_calli hG hw (va_runV (As := [.int (xs (x3 + (1 : Int32)).toNatClampNeg), .int (xs (x3 + (2 : Int32)).toNatClampNeg), .int (xs (x3 + (3 : Int32)).toNatClampNeg)]) (rest := []) ⟨hx, hb, hml, hown, hts⟩ (c_X5_draws (l := l) (G := G) h) (cwV 3 hts gT_X5_draws rfl rfl rfl (by decide +kernel) ⟨Nat.le_of_ble_eq_true rfl, Nat.le_of_ble_eq_true rfl⟩) (x_preV hG hw xO0 rfl) rfl rfl hl.1 rfl (lv_room (Nat.le_of_ble_eq_true rfl)) dL_law_554 ⟨Nat.le_of_ble_eq_true rfl, Nat.le_of_ble_eq_true rfl⟩) (fun r_148 A_149 L_150 H locs hw h => ?_)
          refine lv_aload_n hx hb dL_law_557 rfl (lv_at hl 2 rfl) ?_
          refine lv_aload_n hx hb dL_law_558 rfl (lv_at hl 0 rfl) ?_
          refine lv_iload_n hx hb dL_law_559 rfl (lv_at hl 3 rfl) ?_
          refine lv_iconst (v := 1) hx hb dL_law_560 (by decide) ?_
          refine lv_iadd hx hb dL_law_561 ?_
          refine va_sld hx hb hX hbl hbA hw.2 i_145 dL_law_562 ?_
          refine lv_aload_n hx hb dL_law_563 rfl (lv_at hl 0 rfl) ?_
          refine lv_iload_n hx hb dL_law_564 rfl (lv_at hl 3 rfl) ?_
          refine lv_iconst (v := 2) hx hb dL_law_565 (by decide) ?_
          refine lv_iadd hx hb dL_law_566 ?_
          refine va_sld hx hb hX hbl hbA hw.2 i_146 dL_law_567 ?_
          refine lv_aload_n hx hb dL_law_568 rfl (lv_at hl 0 rfl) ?_
          refine lv_iload_n hx hb dL_law_569 rfl (lv_at hl 3 rfl) ?_
          refine lv_iconst (v := 3) hx hb dL_law_570 (by decide) ?_
          refine lv_iadd hx hb dL_law_571 ?_
          refine va_sld hx hb hX hbl hbA hw.2 i_147 dL_law_572 ?_
          refine x_calli hG hw (va_runV (As := [.int (xs (x3 + (1 : Int32)).toNatClampNeg), .int (xs (x3 + (2 : Int32)).toNatClampNeg), .int (xs (x3 + (3 : Int32)).toNatClampNeg)]) (rest := [.int r_148]) ⟨hx, hb, hml, hown, hts⟩ (c_X6_draws (l := l) (G := G) h) (cwV 3 hts gT_X6_draws rfl rfl rfl (by decide +kernel) ⟨Nat.le_of_ble_eq_true rfl, Nat.le_of_ble_eq_true rfl⟩) (x_preV hG hw xO23 rfl) rfl rfl hl.1 rfl (lv_room (Nat.le_of_ble_eq_true rfl)) dL_law_573 ⟨Nat.le_of_ble_eq_true rfl, Nat.le_of_ble_eq_true rfl⟩) (fun r_151 A_152 L_153 H locs hw h => ?_)
          refine lv_icmp_eq (tgt := 690) hx hb dL_law_576 (by decide) (fun c_154 => ?_) (fun c_154 => ?_)
          · have h := h.1 c_154
            obtain ⟨x3_155, ex3_155⟩ : ∃ y : Int32, y = x3 + (4 : Int32) := ⟨_, rfl⟩
            have h := h x3_155 ex3_155
            refine lv_iinc (v := x3_155) (lv' := [(3, .int x3_155), (0, .ref b), (1, .ref (xad G 0)), (2, .ref (xad G 23))]) hx hb dL_law_690 hl (k := 3) rfl (by rw [ex3_155]; rfl) (by decide) rfl (fun ls hl => ?_)
            refine lv_goto (tgt := 18) hx hb dL_law_693 (by decide) ?_
            exact ih x3_155 A_152 L_153 _ _ _ hw (lv_sub hl [1, 2, 3, 0] rfl) h
          · have h := h.2 c_154
            refine lv_iconst (v := 0) hx hb dL_law_579 (by decide) ?_
            exact False.elim h
        · have c9 : ((xs x3.toNatClampNeg) &&& (31 : Int32)) = (17 : Int32) := Int32.toInt_inj.mp (c8.trans (by decide))
          have h := h.2.2.2.2.2.2.2.2.2.2.2.2.2.2.2.2.2.2.1 c9
          unfold v_law_op_17 at h
          refine lv_tableIn (tgt := 581) hx hb dL_law_32 (by omega) (by omega) (by rw [c8]; rfl) (by decide) ?_
          refine lv_aload_n hx hb dL_law_581 rfl (lv_at hl 1 rfl) ?_
          refine lv_aload_n hx hb dL_law_582 rfl (lv_at hl 0 rfl) ?_
          refine lv_iload_n hx hb dL_law_583 rfl (lv_at hl 3 rfl) ?_
          refine lv_iconst (v := 1) hx hb dL_law_584 (by decide) ?_
          refine lv_iadd hx hb dL_law_585 ?_
          have i_156 := h.1
          have h := h.2
          refine va_sld hx hb hX hbl hbA hw.2 i_156 dL_law_586 ?_
          refine lv_aload_n hx hb dL_law_587 rfl (lv_at hl 0 rfl) ?_
          refine lv_iload_n hx hb dL_law_588 rfl (lv_at hl 3 rfl) ?_
          refine lv_iconst (v := 2) hx hb dL_law_589 (by decide) ?_
          refine lv_iadd hx hb dL_law_590 ?_
          have i_157 := h.1
          have h := h.2
          refine va_sld hx hb hX hbl hbA hw.2 i_157 dL_law_591 ?_
          refine x_calli hG hw (va_runV (As := [.int (xs (x3 + (1 : Int32)).toNatClampNeg), .int (xs (x3 + (2 : Int32)).toNatClampNeg)]) (rest := []) ⟨hx, hb, hml, hown, hts⟩ (c_X5_most (l := l) (G := G) h) (cwV 2 hts gT_X5_most rfl rfl rfl (by decide +kernel) ⟨Nat.le_of_ble_eq_true rfl, Nat.le_of_ble_eq_true rfl⟩) (x_preV hG hw xO0 rfl) rfl rfl hl.1 rfl (lv_room (Nat.le_of_ble_eq_true rfl)) dL_law_592 ⟨Nat.le_of_ble_eq_true rfl, Nat.le_of_ble_eq_true rfl⟩) (fun r_158 A_159 L_160 H locs hw h => ?_)
          refine lv_aload_n hx hb dL_law_595 rfl (lv_at hl 2 rfl) ?_
          refine lv_aload_n hx hb dL_law_596 rfl (lv_at hl 0 rfl) ?_
          refine lv_iload_n hx hb dL_law_597 rfl (lv_at hl 3 rfl) ?_
          refine lv_iconst (v := 1) hx hb dL_law_598 (by decide) ?_
          refine lv_iadd hx hb dL_law_599 ?_
          refine va_sld hx hb hX hbl hbA hw.2 i_156 dL_law_600 ?_
          refine lv_aload_n hx hb dL_law_601 rfl (lv_at hl 0 rfl) ?_
          refine lv_iload_n hx hb dL_law_602 rfl (lv_at hl 3 rfl) ?_
          refine lv_iconst (v := 2) hx hb dL_law_603 (by decide) ?_
          refine lv_iadd hx hb dL_law_604 ?_
          refine va_sld hx hb hX hbl hbA hw.2 i_157 dL_law_605 ?_
          refine x_calli hG hw (va_runV (As := [.int (xs (x3 + (1 : Int32)).toNatClampNeg), .int (xs (x3 + (2 : Int32)).toNatClampNeg)]) (rest := [.int r_158]) ⟨hx, hb, hml, hown, hts⟩ (c_X6_most (l := l) (G := G) h) (cwV 2 hts gT_X6_most rfl rfl rfl (by decide +kernel) ⟨Nat.le_of_ble_eq_true rfl, Nat.le_of_ble_eq_true rfl⟩) (x_preV hG hw xO23 rfl) rfl rfl hl.1 rfl (lv_room (Nat.le_of_ble_eq_true rfl)) dL_law_606 ⟨Nat.le_of_ble_eq_true rfl, Nat.le_of_ble_eq_true rfl⟩) (fun r_161 A_162 L_163 H locs hw h => ?_)
          refine lv_icmp_eq (tgt := 690) hx hb dL_law_609 (by decide) (fun c_164 => ?_) (fun c_164 => ?_)
          · have h := h.1 c_164
            obtain ⟨x3_165, ex3_165⟩ : ∃ y : Int32, y = x3 + (4 : Int32) := ⟨_, rfl⟩
            have h := h x3_165 ex3_165
            refine lv_iinc (v := x3_165) (lv' := [(3, .int x3_165), (0, .ref b), (1, .ref (xad G 0)), (2, .ref (xad G 23))]) hx hb dL_law_690 hl (k := 3) rfl (by rw [ex3_165]; rfl) (by decide) rfl (fun ls hl => ?_)
            refine lv_goto (tgt := 18) hx hb dL_law_693 (by decide) ?_
            exact ih x3_165 A_162 L_163 _ _ _ hw (lv_sub hl [1, 2, 3, 0] rfl) h
          · have h := h.2 c_164
            refine lv_iconst (v := 0) hx hb dL_law_612 (by decide) ?_
            exact False.elim h
        · have c9 : ((xs x3.toNatClampNeg) &&& (31 : Int32)) = (18 : Int32) := Int32.toInt_inj.mp (c8.trans (by decide))
          have h := h.2.2.2.2.2.2.2.2.2.2.2.2.2.2.2.2.2.2.2.1 c9
          unfold v_law_op_18 at h
          refine lv_tableIn (tgt := 614) hx hb dL_law_32 (by omega) (by omega) (by rw [c8]; rfl) (by decide) ?_
          refine lv_aload_n hx hb dL_law_614 rfl (lv_at hl 1 rfl) ?_
          refine lv_aload_n hx hb dL_law_615 rfl (lv_at hl 0 rfl) ?_
          refine lv_iload_n hx hb dL_law_616 rfl (lv_at hl 3 rfl) ?_
          refine lv_iconst (v := 1) hx hb dL_law_617 (by decide) ?_
          refine lv_iadd hx hb dL_law_618 ?_
          have i_166 := h.1
          have h := h.2
          refine va_sld hx hb hX hbl hbA hw.2 i_166 dL_law_619 ?_
          refine lv_aload_n hx hb dL_law_620 rfl (lv_at hl 0 rfl) ?_
          refine lv_iload_n hx hb dL_law_621 rfl (lv_at hl 3 rfl) ?_
          refine lv_iconst (v := 2) hx hb dL_law_622 (by decide) ?_
          refine lv_iadd hx hb dL_law_623 ?_
          have i_167 := h.1
          have h := h.2
          refine va_sld hx hb hX hbl hbA hw.2 i_167 dL_law_624 ?_
          refine lv_aload_n hx hb dL_law_625 rfl (lv_at hl 0 rfl) ?_
          refine lv_iload_n hx hb dL_law_626 rfl (lv_at hl 3 rfl) ?_
          refine lv_iconst (v := 3) hx hb dL_law_627 (by decide) ?_
          refine lv_iadd hx hb dL_law_628 ?_
          have i_168 := h.1
          have h := h.2
          refine va_sld hx hb hX hbl hbA hw.2 i_168 dL_law_629 ?_
          refine x_calli hG hw (va_runV (As := [.int (xs (x3 + (1 : Int32)).toNatClampNeg), .int (xs (x3 + (2 : Int32)).toNatClampNeg), .int (xs (x3 + (3 : Int32)).toNatClampNeg)]) (rest := []) ⟨hx, hb, hml, hown, hts⟩ (c_X5_span (l := l) (G := G) h) (cwV 3 hts gT_X5_span rfl rfl rfl (by decide +kernel) ⟨Nat.le_of_ble_eq_true rfl, Nat.le_of_ble_eq_true rfl⟩) (x_preV hG hw xO0 rfl) rfl rfl hl.1 rfl (lv_room (Nat.le_of_ble_eq_true rfl)) dL_law_630 ⟨Nat.le_of_ble_eq_true rfl, Nat.le_of_ble_eq_true rfl⟩) (fun r_169 A_170 L_171 H locs hw h => ?_)
          refine lv_aload_n hx hb dL_law_633 rfl (lv_at hl 2 rfl) ?_
          refine lv_aload_n hx hb dL_law_634 rfl (lv_at hl 0 rfl) ?_
          refine lv_iload_n hx hb dL_law_635 rfl (lv_at hl 3 rfl) ?_
          refine lv_iconst (v := 1) hx hb dL_law_636 (by decide) ?_
          refine lv_iadd hx hb dL_law_637 ?_
          refine va_sld hx hb hX hbl hbA hw.2 i_166 dL_law_638 ?_
          refine lv_aload_n hx hb dL_law_639 rfl (lv_at hl 0 rfl) ?_
          refine lv_iload_n hx hb dL_law_640 rfl (lv_at hl 3 rfl) ?_
          refine lv_iconst (v := 2) hx hb dL_law_641 (by decide) ?_
          refine lv_iadd hx hb dL_law_642 ?_
          refine va_sld hx hb hX hbl hbA hw.2 i_167 dL_law_643 ?_
          refine lv_aload_n hx hb dL_law_644 rfl (lv_at hl 0 rfl) ?_
          refine lv_iload_n hx hb dL_law_645 rfl (lv_at hl 3 rfl) ?_
          refine lv_iconst (v := 3) hx hb dL_law_646 (by decide) ?_
          refine lv_iadd hx hb dL_law_647 ?_
          refine va_sld hx hb hX hbl hbA hw.2 i_168 dL_law_648 ?_
          refine x_calli hG hw (va_runV (As := [.int (xs (x3 + (1 : Int32)).toNatClampNeg), .int (xs (x3 + (2 : Int32)).toNatClampNeg), .int (xs (x3 + (3 : Int32)).toNatClampNeg)]) (rest := [.int r_169]) ⟨hx, hb, hml, hown, hts⟩ (c_X6_span (l := l) (G := G) h) (cwV 3 hts gT_X6_span rfl rfl rfl (by decide +kernel) ⟨Nat.le_of_ble_eq_true rfl, Nat.le_of_ble_eq_true rfl⟩) (x_preV hG hw xO23 rfl) rfl rfl hl.1 rfl (lv_room (Nat.le_of_ble_eq_true rfl)) dL_law_649 ⟨Nat.le_of_ble_eq_true rfl, Nat.le_of_ble_eq_true rfl⟩) (fun r_172 A_173 L_174 H locs hw h => ?_)
          refine lv_icmp_eq (tgt := 690) hx hb dL_law_652 (by decide) (fun c_175 => ?_) (fun c_175 => ?_)
          · have h := h.1 c_175
            obtain ⟨x3_176, ex3_176⟩ : ∃ y : Int32, y = x3 + (4 : Int32) := ⟨_, rfl⟩
            have h := h x3_176 ex3_176
            refine lv_iinc (v := x3_176) (lv' := [(3, .int x3_176), (0, .ref b), (1, .ref (xad G 0)), (2, .ref (xad G 23))]) hx hb dL_law_690 hl (k := 3) rfl (by rw [ex3_176]; rfl) (by decide) rfl (fun ls hl => ?_)
            refine lv_goto (tgt := 18) hx hb dL_law_693 (by decide) ?_
            exact ih x3_176 A_173 L_174 _ _ _ hw (lv_sub hl [1, 2, 3, 0] rfl) h
          · have h := h.2 c_175
            refine lv_iconst (v := 0) hx hb dL_law_655 (by decide) ?_
            exact False.elim h
        · have c9 : ((xs x3.toNatClampNeg) &&& (31 : Int32)) = (19 : Int32) := Int32.toInt_inj.mp (c8.trans (by decide))
          have h := h.2.2.2.2.2.2.2.2.2.2.2.2.2.2.2.2.2.2.2.2 c9
          unfold v_law_op_19 at h
          refine lv_tableIn (tgt := 657) hx hb dL_law_32 (by omega) (by omega) (by rw [c8]; rfl) (by decide) ?_
          refine lv_aload_n hx hb dL_law_657 rfl (lv_at hl 1 rfl) ?_
          refine lv_aload_n hx hb dL_law_658 rfl (lv_at hl 0 rfl) ?_
          refine lv_iload_n hx hb dL_law_659 rfl (lv_at hl 3 rfl) ?_
          refine lv_iconst (v := 1) hx hb dL_law_660 (by decide) ?_
          refine lv_iadd hx hb dL_law_661 ?_
          have i_177 := h.1
          have h := h.2
          refine va_sld hx hb hX hbl hbA hw.2 i_177 dL_law_662 ?_
          refine lv_aload_n hx hb dL_law_663 rfl (lv_at hl 0 rfl) ?_
          refine lv_iload_n hx hb dL_law_664 rfl (lv_at hl 3 rfl) ?_
          refine lv_iconst (v := 2) hx hb dL_law_665 (by decide) ?_
          refine lv_iadd hx hb dL_law_666 ?_
          have i_178 := h.1
          have h := h.2
          refine va_sld hx hb hX hbl hbA hw.2 i_178 dL_law_667 ?_
          refine x_calli hG hw (va_runV (As := [.int (xs (x3 + (1 : Int32)).toNatClampNeg), .int (xs (x3 + (2 : Int32)).toNatClampNeg)]) (rest := []) ⟨hx, hb, hml, hown, hts⟩ (c_X5_signs (l := l) (G := G) h) (cwV 2 hts gT_X5_signs rfl rfl rfl (by decide +kernel) ⟨Nat.le_of_ble_eq_true rfl, Nat.le_of_ble_eq_true rfl⟩) (x_preV hG hw xO0 rfl) rfl rfl hl.1 rfl (lv_room (Nat.le_of_ble_eq_true rfl)) dL_law_668 ⟨Nat.le_of_ble_eq_true rfl, Nat.le_of_ble_eq_true rfl⟩) (fun r_179 A_180 L_181 H locs hw h => ?_)
          refine lv_aload_n hx hb dL_law_671 rfl (lv_at hl 2 rfl) ?_
          refine lv_aload_n hx hb dL_law_672 rfl (lv_at hl 0 rfl) ?_
          refine lv_iload_n hx hb dL_law_673 rfl (lv_at hl 3 rfl) ?_
          refine lv_iconst (v := 1) hx hb dL_law_674 (by decide) ?_
          refine lv_iadd hx hb dL_law_675 ?_
          refine va_sld hx hb hX hbl hbA hw.2 i_177 dL_law_676 ?_
          refine lv_aload_n hx hb dL_law_677 rfl (lv_at hl 0 rfl) ?_
          refine lv_iload_n hx hb dL_law_678 rfl (lv_at hl 3 rfl) ?_
          refine lv_iconst (v := 2) hx hb dL_law_679 (by decide) ?_
          refine lv_iadd hx hb dL_law_680 ?_
          refine va_sld hx hb hX hbl hbA hw.2 i_178 dL_law_681 ?_
          refine x_calli hG hw (va_runV (As := [.int (xs (x3 + (1 : Int32)).toNatClampNeg), .int (xs (x3 + (2 : Int32)).toNatClampNeg)]) (rest := [.int r_179]) ⟨hx, hb, hml, hown, hts⟩ (c_X6_signs (l := l) (G := G) h) (cwV 2 hts gT_X6_signs rfl rfl rfl (by decide +kernel) ⟨Nat.le_of_ble_eq_true rfl, Nat.le_of_ble_eq_true rfl⟩) (x_preV hG hw xO23 rfl) rfl rfl hl.1 rfl (lv_room (Nat.le_of_ble_eq_true rfl)) dL_law_682 ⟨Nat.le_of_ble_eq_true rfl, Nat.le_of_ble_eq_true rfl⟩) (fun r_182 A_183 L_184 H locs hw h => ?_)
          refine lv_icmp_eq (tgt := 690) hx hb dL_law_685 (by decide) (fun c_185 => ?_) (fun c_185 => ?_)
          · have h := h.1 c_185
            obtain ⟨x3_186, ex3_186⟩ : ∃ y : Int32, y = x3 + (4 : Int32) := ⟨_, rfl⟩
            have h := h x3_186 ex3_186
            refine lv_iinc (v := x3_186) (lv' := [(3, .int x3_186), (0, .ref b), (1, .ref (xad G 0)), (2, .ref (xad G 23))]) hx hb dL_law_690 hl (k := 3) rfl (by rw [ex3_186]; rfl) (by decide) rfl (fun ls hl => ?_)
            refine lv_goto (tgt := 18) hx hb dL_law_693 (by decide) ?_
            exact ih x3_186 A_183 L_184 _ _ _ hw (lv_sub hl [1, 2, 3, 0] rfl) h
          · have h := h.2 c_185
            refine lv_iconst (v := 0) hx hb dL_law_688 (by decide) ?_
            exact False.elim h
