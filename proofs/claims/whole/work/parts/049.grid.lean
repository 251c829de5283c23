/-! new T[n][k]: an outer array whose places name n rows laid right behind it; the machine lays row after row -/
/-- the outer array's contents when i rows stand -/
def gm_o (h i : Nat) : Nat → Value := fun j => va_rf (if j < i then some (h + 1 + j) else none)
/-- the state with i rows laid -/
def gm_V (T : State) (cA cy : ClassId) (N K : Nat) (v : Value) : Nat → State
  | 0 => T.pushCell (arrV cA N (gm_o T.heap.size 0))
  | i + 1 => ((gm_V T cA cy N K v i).pushCell (arrV cy K (fun _ => v))).setCell T.heap.size (arrV cA N (gm_o T.heap.size (i + 1)))
theorem gm_o_none (h : Nat) : gm_o h 0 = fun _ => .null := rfl
theorem gm_o_row (h i : Nat) : updV (gm_o h i) i (.ref (h + 1 + i)) = gm_o h (i + 1) := by
  funext j
  unfold updV gm_o
  rcases Nat.lt_trichotomy j i with a | a | a
  · rw [if_neg (Nat.ne_of_lt a), if_pos a, if_pos (Nat.lt_succ_of_lt a)]
  · subst a
    rw [if_pos rfl, if_pos (Nat.lt_succ_self j)]
    rfl
  · rw [if_neg (Nat.ne_of_gt a), if_neg (by omega), if_neg (by omega)]
theorem gm_V_top (T : State) (g : JFrame) (cA cy : ClassId) (N K : Nat) (v : Value) (i : Nat) : gm_V (T.setTop g) cA cy N K v i = (gm_V T cA cy N K v i).setTop g := by
  induction i with
  | zero => rfl
  | succ i ih =>
    show ((gm_V (T.setTop g) cA cy N K v i).pushCell _).setCell _ _ = _
    rw [ih]
    rfl
section GMV
variable {p : Program} {l : Launch} {e : Env} {R : Room} {s : State} {m : MethodId} {args : Array Value} {below : List Frame} {meth : Method} {c : Code} {T : State} {locs : List Loc} {cells slots : Nat}
/-- what stands when i rows stand: the walk, and the heap place by place -/
theorem gm_laid (X : Stand p l e R s m args below meth c T locs cells slots) (cA cy : ClassId) (N K : Nat) (v : Value) (i : Nat) :
    Stand p l e R s m args below meth c (gm_V T cA cy N K v i) locs (cells + 1 + i) (slots + N + i * K) ∧ (gm_V T cA cy N K v i).vm = T.vm ∧ (gm_V T cA cy N K v i).heap.size = T.heap.size + 1 + i ∧
      (gm_V T cA cy N K v i).heap[T.heap.size]? = some (arrV cA N (gm_o T.heap.size i)) ∧ (∀ j, j < i → (gm_V T cA cy N K v i).heap[T.heap.size + 1 + j]? = some (arrV cy K (fun _ => v))) ∧
      ∀ x : Nat, x < T.heap.size → (gm_V T cA cy N K v i).heap[x]? = T.heap[x]? := by
  induction i with
  | zero =>
    have h := X.pushed (arrV cA N (gm_o T.heap.size 0))
    rw [arrV_size] at h
    refine ⟨?_, rfl, ?_, State.heap_pushCell_size _ _, fun j hj => absurd hj (Nat.not_lt_zero j), fun x hx => State.heap_pushCell_of_lt _ _ hx⟩
    · rw [Nat.zero_mul]
      exact h
    · show (T.pushCell _).heap.size = _
      simp
  | succ i ih =>
    obtain ⟨h1, h2, h3, h4, h5, h6⟩ := ih
    generalize hG : gm_V T cA cy N K v i = G at h1 h2 h3 h4 h5 h6
    have hV : gm_V T cA cy N K v (i + 1) = (G.pushCell (arrV cy K (fun _ => v))).setCell T.heap.size (arrV cA N (gm_o T.heap.size (i + 1))) := by rw [← hG]; rfl
    rw [hV]
    have hlt : T.heap.size < G.heap.size := by omega
    have hc : (G.pushCell (arrV cy K (fun _ => v))).heap[T.heap.size]? = some (arrV cA N (gm_o T.heap.size i)) := by rw [State.heap_pushCell_of_lt _ _ hlt]; exact h4
    have hs := (h1.pushed (arrV cy K (fun _ => v))).stored hc i (.ref (T.heap.size + 1 + i))
    rw [arrV_size, arrV_store, gm_o_row] at hs
    refine ⟨?_, h2, ?_, State.heap_setCell_self hc, fun j hj => ?_, fun x hx => ?_⟩
    · have hd := hs.dropFresh (fun x hx => by
        rw [List.mem_singleton.mp hx]
        exact X.heapGrown)
      rw [show slots + N + (i + 1) * K = slots + N + i * K + K by rw [Nat.succ_mul]; omega]
      exact hd
    · rw [size_setCell]
      simp [h3]
      omega
    · rw [State.heap_setCell_other (show T.heap.size ≠ T.heap.size + 1 + j by omega)]
      rcases Nat.lt_or_ge j i with a | a
      · rw [State.heap_pushCell_of_lt _ _ (show T.heap.size + 1 + j < G.heap.size by omega)]
        exact h5 j a
      · rw [show T.heap.size + 1 + j = G.heap.size by omega]
        exact State.heap_pushCell_size _ _
    · rw [State.heap_setCell_other (Nat.ne_of_gt hx), State.heap_pushCell_of_lt _ _ (Nat.lt_trans hx hlt)]
      exact h6 x hx
end GMV
section GMW
variable {E : CtlPost} {e : Env} {d : Bool} {acts : List Action} {s : State}
/-- the model's making of one array -/
theorem gm_new {cA comp : ClassId} {k : Class} {t : FieldType} {N : Nat} {v : Value} {Q : Addr → Pre} (hk : s.vm.classes[cA]? = some k) (hkind : k.kind = .array comp t) (hl : ¬ N > e.platform.arrayLengthLimit) (hb : ¬ N * componentBytes t > e.platform.maxHeapBytes)
    (hf : fits t v = true) (hd : v.isDefault = true) (h1 : s.heap.size < e.platform.maxCells) (h2 : s.slotsUsed + N ≤ e.platform.maxSlots) (hq : Q s.heap.size d acts (s.pushCell (arrV cA N (fun _ => v)))) : wp (Jvm.newArray cA N v) Q E e d acts s := by
  have ha : allocActs (Array.replicate N v) s.heap.size acts = acts := by
    unfold allocActs
    refine if_pos ?_
    rw [Array.all_eq_true]
    intro i hi
    rw [Array.getElem_replicate]
    exact hd
  have hfit : ∀ i w, (Array.replicate N v)[i]? = some w → s.fitsSlot cA .none i w = true := fun i w h => by
    obtain ⟨hi, e1⟩ := Array.getElem?_eq_some_iff.mp h
    rw [Array.getElem_replicate] at e1
    subst e1
    simp [State.fitsSlot, State.slotType?, hk, hkind, hf]
  rw [← arrV_new] at hq
  simp only [Jvm.newArray, Jvm.arrayFits, wp_bind', wp_pure', W.ask, W.ite, W.theClass, W.alloc, W.stop, hl, hb, hk, hkind, if_false, Option.some.injEq, exists_eq_left', Array.size_replicate, ha]
  rw [if_neg (by omega)]
  exact ⟨h1, h2, hfit, hq⟩
/-- one row, as the model makes it -/
theorem gm_row {cy cc : ClassId} {kC : Class} {ty : FieldType} {k : Int32} {Q : Addr → Pre} (hkC : s.vm.classes[cy]? = some kC) (hC : kC.kind = .array cc ty) (hk : ¬ k < 0) (hl : ¬ k.toNatClampNeg > e.platform.arrayLengthLimit) (hb : ¬ k.toNatClampNeg * componentBytes ty > e.platform.maxHeapBytes)
    (hf : fits ty (defaultValue ty) = true) (hd : (defaultValue ty).isDefault = true) (h1 : s.heap.size < e.platform.maxCells) (h2 : s.slotsUsed + k.toNatClampNeg ≤ e.platform.maxSlots) (hq : Q s.heap.size d acts (s.pushCell (arrV cy k.toNatClampNeg (fun _ => defaultValue ty)))) : wp (multianewarray.make cy [k]) Q E e d acts s := by
  rw [multianewarray.make]
  simp only [wp_bind', wp_pure', W.ite, W.theClass, hk, if_false, hkC, hC, Option.some.injEq, exists_eq_left']
  exact gm_new hkC hC hl hb hf hd h1 h2 hq
end GMW
section GMM
variable {p : Program} {l : Launch} {e : Env} {R : Room} {s : State} {m : MethodId} {args : Array Value} {below : List Frame} {meth : Method} {c : Code} {T : State} {locs : List Loc} {cells slots : Nat} {E : CtlPost} {d : Bool} {acts : List Action}
theorem gm_refs {t : FieldType} (r : Option Nat) : fits (.array t) (va_rf r) = true := by
  cases r <;> rfl
/-- the whole, as the model makes it, from a state of the walk -/
theorem gm_make (X : Stand p l e R s m args below meth c T locs cells slots) (g : JFrame) {cA cy cc : ClassId} {kA kC : Class} {ty : FieldType} {n k : Int32} {Q : Addr → Pre} (hkA : T.vm.classes[cA]? = some kA) (hA : kA.kind = .array cy (.array ty)) (hkC : T.vm.classes[cy]? = some kC) (hC : kC.kind = .array cc ty) (hn : ¬ n < 0) (hk : ¬ k < 0)
    (hb1 : n.toNatClampNeg * 4 ≤ 536870912) (hb2 : k.toNatClampNeg * componentBytes ty ≤ 536870912) (hb3 : k.toNatClampNeg ≤ 536870912) (hf : fits ty (defaultValue ty) = true) (hd : (defaultValue ty).isDefault = true)
    (hcells : cells + (1 + n.toNatClampNeg) ≤ R.cells) (hslots : slots + (n.toNatClampNeg + n.toNatClampNeg * k.toNatClampNeg) ≤ R.slots)
    (hq : ∀ d' acts', Q T.heap.size d' acts' ((gm_V T cA cy n.toNatClampNeg k.toNatClampNeg (defaultValue ty) n.toNatClampNeg).setTop g)) : wp (multianewarray.make cA [n, k]) Q E e d acts (T.setTop g) := by
  have l1 : ¬ n.toNatClampNeg > e.platform.arrayLengthLimit := by rw [Launch.admits_arrayLengthLimit X.admits]; omega
  have b1 : ¬ n.toNatClampNeg * componentBytes (.array ty) > e.platform.maxHeapBytes := by
    rw [Launch.admits_maxHeapBytes X.admits]; show ¬ n.toNatClampNeg * 4 > 536870912; omega
  have l2 : ¬ k.toNatClampNeg > e.platform.arrayLengthLimit := by rw [Launch.admits_arrayLengthLimit X.admits]; omega
  have b2 : ¬ k.toNatClampNeg * componentBytes ty > e.platform.maxHeapBytes := by rw [Launch.admits_maxHeapBytes X.admits]; omega
  obtain ⟨r1, r2⟩ := X.roomAbove (a := 1) (b := n.toNatClampNeg) (by omega) (by omega)
  have hkA0 : (T.setTop g).vm.classes[cA]? = some kA := hkA
  rw [multianewarray.make]
  simp only [wp_bind', wp_pure', W.ite, W.theClass, hn, if_false, hkA0, hA, Option.some.injEq, exists_eq_left']
  refine gm_new hkA0 hA l1 b1 (gm_refs none) rfl (by show T.heap.size < _; omega) (by show T.slotsUsed + _ ≤ _; omega) ?_
  have hnone : ([k].find? (· < 0)) = none := by simp [hk]
  simp only [hnone]
  rw [ite_self, wp_bind', Std.Legacy.Range.forIn_eq_forIn_range']
  rw [show ([:n.toNatClampNeg] : Std.Legacy.Range).size = n.toNatClampNeg by simp [Std.Legacy.Range.size]]
  generalize hN : n.toNatClampNeg = N at *
  generalize hK : k.toNatClampNeg = K at *
  refine wp_forIn_inv (fun rest U => ∃ i, i + rest.length = N ∧ rest = List.range' i rest.length 1 ∧ U = (gm_V T cA cy N K (defaultValue ty) i).setTop g) _ _ ⟨0, by simp, by simp, rfl⟩ ?_ ?_
  · rintro x rest U d1 a1 Q1 ⟨i, hi, hr, rfl⟩ nxt
    rw [List.length_cons] at hi hr
    rw [List.range'_succ] at hr
    obtain ⟨rfl, hr2⟩ := List.cons.inj hr
    obtain ⟨Y, y2, y3, y4, -, -⟩ := gm_laid X cA cy N K (defaultValue ty) x
    have hm : x * K + K ≤ N * K := by
      have := Nat.mul_le_mul_right K (show x + 1 ≤ N by omega)
      rw [Nat.succ_mul] at this
      exact this
    obtain ⟨r3, r4⟩ := Y.roomAbove (a := 1) (b := K) (by omega) (by omega)
    generalize hG : gm_V T cA cy N K (defaultValue ty) x = G at Y y2 y3 y4 r3 r4
    have hV : gm_V T cA cy N K (defaultValue ty) (x + 1) = (G.pushCell (arrV cy K (fun _ => defaultValue ty))).setCell T.heap.size (arrV cA N (gm_o T.heap.size (x + 1))) := by rw [← hG]; rfl
    simp only [wp_bind']
    refine gm_row (by show G.vm.classes[cy]? = _; rw [y2]; exact hkC) hC hk (by rw [hK]; exact l2) (by rw [hK]; exact b2) hf hd (by show G.heap.size < _; omega) (by show G.slotsUsed + _ ≤ _; omega) ?_
    have hc : (G.pushCell (arrV cy K (fun _ => defaultValue ty))).heap[T.heap.size]? = some (arrV cA N (gm_o T.heap.size x)) := by rw [State.heap_pushCell_of_lt _ _ (show T.heap.size < G.heap.size by omega)]; exact y4
    simp only [wp_bind', wp_pure', W.writeLoc, hK]
    refine ⟨arrV cA N (gm_o T.heap.size x), hc, (fun h => by cases h), by rw [arrV_size]; omega, ?_, nxt _ _ _ ⟨x + 1, by omega, hr2, ?_⟩⟩
    · have hkG : ((G.setTop g).pushCell (arrV cy K (fun _ => defaultValue ty))).vm.classes[cA]? = some kA := by show G.vm.classes[cA]? = _; rw [y2]; exact hkA
      simp [State.fitsSlot, State.slotType?, arrV, y2, hkA, hA]
      exact gm_refs (some _)
    · rw [hV, arrV_store]
      show _ = ((G.pushCell _).setCell T.heap.size _).setTop g
      have e1 : (G.setTop g).heap.size = T.heap.size + 1 + x := y3
      rw [e1, gm_o_row]
      rfl
  · rintro U d1 a1 ⟨i, hi, -, rfl⟩
    rw [List.length_nil, Nat.add_zero] at hi
    subst hi
    simp only [wp_pure']
    exact hq _ _
end GMM
section GMS
variable {p : Program} {l : Launch} {e : Env} {R : Room} {s : State} {m : MethodId} {args : Array Value} {below : List Frame} {meth : Method} {c : Code} {H : Heap} {locs : List Loc} {cells slots : Nat} {Q : State → Prop}
/-- the instruction's row, by the heap alone -/
theorem W.grid {cc : ByteArray} (hexec : p.tables.exec = Jvm.exec) (hb : c.code = cc) {own : String} {index : Nat} {ty : FieldType} (hown : s.vm.findClass own = some m.cls) (hclink : (Cond.classLink own index ("[" ++ (FieldType.array ty).toString)).before args s = true) (hover : (Cond.arrayOver (.array ty)).before args s = true) (harr : (Cond.arrayClass ty).before args s = true)
    {g : JFrame} (hg : g.method = m) (hdg : decode cc g.pc = .ok (.multianewarray index 2, 4)) {n k : Int32} {N K : Nat} {rest : List Value} (hstack : g.stack = .int k :: .int n :: rest) (hn : ¬ n < 0) (hk : ¬ k < 0) (hN : n.toNatClampNeg = N) (hK : k.toNatClampNeg = K)
    (hb1 : N * 4 ≤ 536870912) (hb2 : K * componentBytes ty ≤ 536870912) (hb3 : K ≤ 536870912) (hf : fits ty (defaultValue ty) = true) (hd : (defaultValue ty).isDefault = true) (hcells : cells + (1 + N) ≤ R.cells) (hslots : slots + (N + N * K) ≤ R.slots)
    (kk : ∀ (cA cy : ClassId) (F : Heap), s.vm.findClass ("[" ++ (FieldType.array ty).toString) = some cA → s.vm.findClass (FieldType.array ty).toString = some cy → ArrOfT s cA (.array ty) → F.size = H.size + 1 + N → F[H.size]? = some (arrV cA N (gm_o H.size N)) →
      (∀ j, j < N → F[H.size + 1 + j]? = some (arrV cy K (fun _ => defaultValue ty))) → (∀ x : Nat, x < H.size → F[x]? = H[x]?) →
      W p l e R s m args below meth c F locs (cells + 1 + N) (slots + N + N * K) Q { g with pc := g.pc + 4, stack := .ref H.size :: rest }) : W p l e R s m args below meth c H locs cells slots Q g := by
  intro T hT X
  subst hT; subst hb; subst hg; subst hN; subst hK
  have hpl : e.platform.magicAccessors = ({} : Platform).magicAccessors := by rw [X.admits.platform]
  obtain ⟨cy, cA, kA, hcy, -, hkA, hA, hcA⟩ := arrayOverA_spec hover
  obtain ⟨cy', kC, cc, hcy', hkC, hC⟩ := Cond.arrayClass_spec harr
  cases hcy.symm.trans hcy'
  obtain ⟨cA', hcA', hcl⟩ := Cond.classLink_spec hown hclink e.platform hpl
  cases hcA.symm.trans hcA'
  obtain ⟨hgo, hwarm, -⟩ := State.classEntry (e := e) X.warmed hcl
  generalize T.vm.noted g.method.cls index (.cls cA) = vm₁ at hgo hwarm
  obtain ⟨kA₁, hkA₁, eA⟩ := hwarm.alike.2.2 _ _ hkA
  obtain ⟨kC₁, hkC₁, eC⟩ := hwarm.alike.2.2 _ _ hkC
  have X₁ := X.noted hwarm
  obtain ⟨h1, h2, h3, h4, h5, h6⟩ := gm_laid X₁ cA cy n.toNatClampNeg k.toNatClampNeg (defaultValue ty) n.toNatClampNeg
  generalize hG : gm_V (T.setVm vm₁) cA cy n.toNatClampNeg k.toNatClampNeg (defaultValue ty) n.toNatClampNeg = G at h1 h2 h3 h4 h5 h6
  obtain ⟨t, st, hQ⟩ := kk cA cy G.heap hcA hcy (fun n z => ⟨fun q h => (by cases h), kA, hkA, cy, hA⟩) h3 h4 h5 h6 G rfl h1
  refine ⟨t, ?_, hQ⟩
  jvm_step X.here [hexec, hdg]
  simp only [multianewarray.sem, wp_bind', W.resolveClassAt_links (State.method?_setTop g X.here.top) hgo]
  rw [W.popN, if_neg (by decide)]
  refine ⟨g, State.topJava?_setTop' (s := T.setVm vm₁) g X.here.top, [.int n, .int k], rest, rfl, hstack, ?_⟩
  simp only [List.mapM_cons, List.mapM_nil, wp_bind', wp_pure']
  have hS : ((T.setTop g).setVm vm₁).setTop { g with stack := rest } = (T.setVm vm₁).setTop { g with stack := rest } := by
    show ((T.setVm vm₁).setTop g).setTop _ = _
    rw [State.setTop_setTop]
  rw [hS]
  refine gm_make X₁ { g with stack := rest } hkA₁ (by rw [eA]; exact hA) hkC₁ (by rw [eC]; exact hC) hn hk hb1 hb2 hb3 hf hd hcells hslots fun d' acts' => ?_
  rw [hG]
  simp only [wp_bind', W.mark, W.pushRef, State.topJava?_setTop' _ h1.here.top, Option.some.injEq, exists_eq_left', State.setTop_setTop, State.heap_setTop]
  intro acts
  simp [jvm, h1.here.top]
  exact st
end GMS
