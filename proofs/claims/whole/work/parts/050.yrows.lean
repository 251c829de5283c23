def va_AOA (t : FieldType) (U : State) : Prop := (Cond.arrayOver (.array t)).before #[] U = true
theorem va_AOA.use {t : FieldType} {A : Array Value} {U : State} (h : va_AOA t U) : (Cond.arrayOver (.array t)).before A U = true := h
theorem va_AOA.moved {t : FieldType} {u U : State} (hvm : u.vm.Alike U.vm) (h : va_AOA t u) : va_AOA t U := by
  obtain ⟨comp, c, k, h1, h2, h3, h4, h5⟩ := arrayOverA_spec h
  obtain ⟨k', hk', he⟩ := hvm.2.2 _ _ h3
  have hi : (U.vm.classes.findIdx? fun (x : Class) => match x.kind with | .array component _ => component == comp | _ => false) = some c := by
    have e1 := va_idx_bare U.vm comp
    have e2 := va_idx_bare u.vm comp
    first | rw [hvm.bare_eq] at e2 | rw [← hvm.bare_eq] at e2
    exact e1.symm.trans (e2.trans h2)
  have hkind : k'.kind = .array comp (.array t) := by rw [he]; exact h4
  have f1 : U.vm.findClass (FieldType.array t).toString = some comp := by rw [hvm.findClass]; exact h1
  have f2 : U.vm.findClass ("[" ++ (FieldType.array t).toString) = some c := by rw [hvm.findClass]; exact h5
  unfold va_AOA Cond.before Cond.holds
  simp only [Cond.value]
  rw [f1, Option.bind_some]
  refine (congrArg (fun o : Option Nat => (o.bind (fun c => (U.vm.classes[c]?).map fun (k : Class) => match k.kind with | .array _ ty => decide (ty = FieldType.array t) && decide (U.vm.findClass ("[" ++ (FieldType.array t).toString) = some c) | _ => false) == some true)) hi).trans ?_
  simp [hk', hkind, f2]
/-! ===== BEGIN new T[n][m]: the outer array a place, the inner ones among the pooled ===== -/
/-- f, but v at every address of l -/
def vr_up {α : Type} (f : Nat → α) (l : List Nat) (v : α) : Nat → α := fun a => if a ∈ l then v else f a
theorem vr_up_in {α : Type} {f : Nat → α} {l : List Nat} {v : α} {a : Nat} (h : a ∈ l) : vr_up f l v a = v := if_pos h
theorem vr_up_ne {α : Type} {f : Nat → α} {l : List Nat} {v : α} {a : Nat} (h : a ∉ l) : vr_up f l v a = f a := if_neg h
theorem vr_rows {L l : List Nat} {f : Nat → va_E} {e : va_E} (h : ∀ a, a ∈ l → a ∉ L) : va_pl L f ++ l.map (fun a => (a, e)) = va_pl (L ++ l) (vr_up f l e) := by
  unfold va_pl
  rw [List.map_append]
  congr 1
  · apply List.map_congr_left
    intro a ha
    rw [vr_up_ne (fun q => h a q ha)]
  · apply List.map_congr_left
    intro a ha
    rw [vr_up_in ha]
theorem vr_lay {X rows : va_W} {x : Nat × va_E} {pl : va_W} {D : va_G} {cl : List vw_C} {H : Heap} (hP : va_P D cl (((X ++ pl) ++ [x]) ++ rows) H) : va_P D cl ((X ++ [x]) ++ (pl ++ rows)) H := by
  rw [List.append_assoc (X ++ pl)] at hP
  have h := va_P.swap hP
  rw [← List.append_assoc X] at h
  have h2 := va_P.swap h
  rw [List.append_assoc (X ++ [x])] at h2
  exact h2
theorem vr_layD {X rows : va_W} {x : Nat × va_E} {pl : va_W} {A : Nat → Prop} (hD : va_D A (((X ++ pl) ++ [x]) ++ rows)) : va_D A ((X ++ [x]) ++ (pl ++ rows)) := by
  rw [List.append_assoc (X ++ pl)] at hD
  have h := va_D.swap hD
  rw [← List.append_assoc X] at h
  have h2 := va_D.swap h
  rw [List.append_assoc (X ++ [x])] at h2
  exact h2
section VGM
variable {p : Program} {l : Launch} {e : Env} {R : Room} {s : State} {m : MethodId} {args : Array Value} {below : List Frame} {meth : Method} {c : Code} {H : Heap} {locs : List Loc} {cells slots : Nat} {Q : State → Prop}
variable {cc : ByteArray} {pc : Nat} {ls : Array Slot} {rest : List Value} {D : va_G} {cl : List vw_C} {A : Nat → Prop} {a : Nat} {tys : List (ClassId × FieldType)} {ws : va_W} {H0 : Heap}
theorem va_mna {X : va_W} {L : List Nat} {f : Nat → va_E} {cc : ByteArray} (hexec : p.tables.exec = Jvm.exec) (hb : c.code = cc) {own : String} {index : Nat} {ty : FieldType} {cy : ClassId} (hown : s.vm.findClass own = some m.cls) (hclink : (Cond.classLink own index ("[" ++ (FieldType.array ty).toString)).before args s = true) (hover : va_AOA ty s) (harr : (Cond.arrayClass ty).before args s = true) (hcy : s.vm.findClass (FieldType.array ty).toString = some cy)
    (hK : va_K D cl tys s) (hP : va_P D cl (X ++ va_pl L f) H) (hD : va_D A (X ++ va_pl L f)) (hS : va_S A H0 H locs) (hA : ∀ q, H0.size ≤ q → A q) {n k : Int32} {N' K' : Nat} {z : vp_A} (hn : ¬ n < 0) (hk : ¬ k < 0) (hN : n.toNatClampNeg = N') (hM : k.toNatClampNeg = K')
    (hb1 : N' * 4 ≤ 536870912) (hb2 : K' * componentBytes ty ≤ 536870912) (hb3 : K' ≤ 536870912) (hdf : fits ty (defaultValue ty) = true) (hdd : (defaultValue ty).isDefault = true) (hcells : cells + (1 + N') ≤ R.cells) (hslots : slots + (N' + N' * K') ≤ R.slots) (hz : ∀ c : ClassId, arrV c K' (fun _ => defaultValue ty) = vp_cell c z) (hdg : decode cc pc = .ok (.multianewarray index 2, 4))
    (kk : ∀ (q : Nat) (r : Nat → Nat) (cA : ClassId) (H1 : Heap), (∀ i j : Nat, i < N' → j < N' → r i = r j → i = j) → (∀ i : Nat, i < N' → r i ∉ L) → va_K D cl (tys ++ [(cA, .array ty)]) s →
      va_P D cl ((X ++ [(q, .inl (cA, N', .inr (.inr (.inr (.inr (fun i => if i < N' then some (r i) else none))))))]) ++ va_pl (L ++ (List.range N').map r) (vr_up f ((List.range N').map r) (.inl (cy, z)))) H1 → va_D A ((X ++ [(q, .inl (cA, N', .inr (.inr (.inr (.inr (fun i => if i < N' then some (r i) else none))))))]) ++ va_pl (L ++ (List.range N').map r) (vr_up f ((List.range N').map r) (.inl (cy, z)))) → va_S A H0 H1 locs →
      W p l e R s m args below meth c H1 locs (cells + 1 + N') (slots + N' + N' * K') Q (F0 m (pc + 4) ls (.ref q :: rest))) : W p l e R s m args below meth c H locs cells slots Q (F0 m pc ls (.int k :: .int n :: rest)) := by
  subst hN
  subst hM
  refine W.grid hexec hb hown hclink (va_AOA.use hover) harr (g := F0 m pc ls (.int k :: .int n :: rest)) rfl hdg rfl hn hk rfl rfl hb1 hb2 hb3 hdf hdd hcells hslots fun cA cy9 F fA fC hAr f1 f2 frow hold => ?_
  have ec : some cy = some cy9 := hcy.symm.trans fC
  cases ec
  have hrow : ∀ j : Nat, j < n.toNatClampNeg → F[H.size + 1 + j]? = some (vp_cell cy z) := fun j hj => by
    rw [frow j hj, hz]
  have hout : arrV cA n.toNatClampNeg (gm_o H.size n.toNatClampNeg) = vp_cell cA (n.toNatClampNeg, .inr (.inr (.inr (.inr (fun i => if i < n.toNatClampNeg then some (H.size + 1 + i) else none))))) := by
    rw [vp_cell_q]
    rfl
  rw [hout] at f2
  have hlt : ∀ a, a ∈ L → a < H.size := fun a ha => by
    obtain ⟨k9, hk9⟩ := va_pl_get (X := X) (f := f) ha
    exact (hP k9 _ hk9).lt
  have hnl : ∀ i : Nat, i < n.toNatClampNeg → H.size + 1 + i ∉ L := fun i _ h => by
    have := hlt _ h
    omega
  have hnm : ∀ a, a ∈ (List.range n.toNatClampNeg).map (fun i => H.size + 1 + i) → a ∉ L := fun a ha h => by
    obtain ⟨i, -, rfl⟩ := List.mem_map.mp ha
    have := hlt _ h
    omega
  have hP0 : va_P D cl (X ++ va_pl L f) F := hP.kept (fun k9 x hx => hold x.1 ((hP k9 x hx).lt))
  have hP1 : va_P D cl ((X ++ va_pl L f) ++ [(H.size, .inl (cA, n.toNatClampNeg, .inr (.inr (.inr (.inr (fun i => if i < n.toNatClampNeg then some (H.size + 1 + i) else none))))))]) F := hP0.app (fun k9 x hx => by
    have h0 : k9 < 1 := (List.getElem?_eq_some_iff.mp hx).1
    rw [show k9 = 0 by omega] at hx
    cases hx
    exact f2)
  have hP2 : va_P D cl (((X ++ va_pl L f) ++ [(H.size, .inl (cA, n.toNatClampNeg, .inr (.inr (.inr (.inr (fun i => if i < n.toNatClampNeg then some (H.size + 1 + i) else none))))))]) ++ ((List.range n.toNatClampNeg).map (fun i => H.size + 1 + i)).map (fun a => (a, .inl (cy, z)))) F := hP1.app (fun k9 x hx => by
    obtain ⟨a, ha, rfl⟩ := List.mem_map.mp (List.mem_of_getElem? hx)
    obtain ⟨i, hi, rfl⟩ := List.mem_map.mp ha
    exact hrow i (List.mem_range.mp hi))
  have hD2 : va_D A (((X ++ va_pl L f) ++ [(H.size, .inl (cA, n.toNatClampNeg, .inr (.inr (.inr (.inr (fun i => if i < n.toNatClampNeg then some (H.size + 1 + i) else none))))))]) ++ ((List.range n.toNatClampNeg).map (fun i => H.size + 1 + i)).map (fun a => (a, .inl (cy, z)))) := by
    have hD1 := hD.push (e := .inl (cA, n.toNatClampNeg, .inr (.inr (.inr (.inr (fun i => if i < n.toNatClampNeg then some (H.size + 1 + i) else none)))))) hP rfl (hA _ hS.1)
    generalize hW1 : (X ++ va_pl L f) ++ [(H.size, .inl (cA, n.toNatClampNeg, .inr (.inr (.inr (.inr (fun i => if i < n.toNatClampNeg then some (H.size + 1 + i) else none))))))] = W1 at hD1 hP1 ⊢
    have hle : ∀ (k9 : Nat) (x : Nat × va_E), W1[k9]? = some x → x.1 ≤ H.size := fun k9 x hx => by
      rw [← hW1] at hx
      by_cases hl : k9 < (X ++ va_pl L f).length
      · rw [List.getElem?_append_left hl] at hx
        exact Nat.le_of_lt ((hP k9 x hx).lt)
      · rw [List.getElem?_append_right (by omega)] at hx
        have h0 : k9 - (X ++ va_pl L f).length < 1 := (List.getElem?_eq_some_iff.mp hx).1
        rw [show k9 - (X ++ va_pl L f).length = 0 by omega] at hx
        cases hx
        exact Nat.le_refl _
    have hr : ∀ (k9 : Nat) (x : Nat × va_E), (((List.range n.toNatClampNeg).map (fun i => H.size + 1 + i)).map (fun a => ((a, .inl (cy, z)) : Nat × va_E)))[k9]? = some x → x.1 = H.size + 1 + k9 := fun k9 x hx => by
      rw [List.getElem?_map, List.getElem?_map] at hx
      by_cases h9 : k9 < n.toNatClampNeg
      · rw [List.getElem?_range h9] at hx
        cases hx
        rfl
      · have hn0 : (List.range n.toNatClampNeg)[k9]? = none := List.getElem?_eq_none (by rw [List.length_range]; omega)
        rw [hn0] at hx
        cases hx
    refine ⟨fun i j x y hi hj hxy => ?_, fun k9 x hx => ?_⟩
    · by_cases h1 : i < W1.length <;> by_cases h2 : j < W1.length
      · rw [List.getElem?_append_left h1] at hi
        rw [List.getElem?_append_left h2] at hj
        exact hD1.1 i j x y hi hj hxy
      · rw [List.getElem?_append_left h1] at hi
        rw [List.getElem?_append_right (by omega)] at hj
        have := hle _ _ hi
        have := hr _ _ hj
        omega
      · rw [List.getElem?_append_right (by omega)] at hi
        rw [List.getElem?_append_left h2] at hj
        have := hle _ _ hj
        have := hr _ _ hi
        omega
      · rw [List.getElem?_append_right (by omega)] at hi hj
        have := hr _ _ hi
        have := hr _ _ hj
        omega
    · by_cases h1 : k9 < W1.length
      · rw [List.getElem?_append_left h1] at hx
        exact hD1.2 k9 x hx
      · rw [List.getElem?_append_right (by omega)] at hx
        have := hr _ _ hx
        exact hA _ (by have := hS.1; omega)
  have hK2 : va_K D cl (tys ++ [(cA, .array ty)]) s := ⟨hK.1, fun k9 x hx => by
    by_cases hl : k9 < tys.length
    · rw [List.getElem?_append_left hl] at hx
      exact hK.2 k9 x hx
    · rw [List.getElem?_append_right (by omega)] at hx
      have h0 : k9 - tys.length < 1 := (List.getElem?_eq_some_iff.mp hx).1
      rw [show k9 - tys.length = 0 by omega] at hx
      cases hx
      exact ⟨hAr, fA⟩⟩
  exact kk H.size (fun i => H.size + 1 + i) cA F (fun i j _ _ h => by have h9 : H.size + 1 + i = H.size + 1 + j := h; omega) hnl hK2 (by rw [← vr_rows hnm]; exact vr_lay hP2) (by rw [← vr_rows hnm]; exact vr_layD hD2) ⟨by rw [f1]; have := hS.1; omega, fun x h1 h2 => (hold x (Nat.lt_of_lt_of_le h1 hS.1)).trans (hS.2.1 x h1 h2), hS.2.2⟩
end VGM
/-! ===== END ===== -/
/-! worlds of constructors: a list of tags that live, their addresses, their cells -/
def yw (S : List Nat) (ad : Nat → Nat) (E : Nat → va_E) : va_W := S.map (fun k => (ad k, E k))
theorem yw_at {S : List Nat} {ad : Nat → Nat} {E : Nat → va_E} {p k : Nat} (h : S[p]? = some k) : (yw S ad E)[p]? = some (ad k, E k) := by
  unfold yw; rw [List.getElem?_map, h]; rfl
theorem yw_set {A : Nat → Prop} {S : List Nat} {ad : Nat → Nat} {E : Nat → va_E} {p k : Nat} (hD : va_D A (yw S ad E)) (h : S[p]? = some k) (e : va_E) : (yw S ad E).set p (ad k, e) = yw S ad (va_up E k e) := by
  apply List.ext_getElem?
  intro j
  have hp := (List.getElem?_eq_some_iff.mp (yw_at (ad := ad) (E := E) h)).1
  by_cases hj : j = p
  · subst hj
    rw [List.getElem?_set_self hp, yw_at h, va_up_self]
  · rw [List.getElem?_set_ne (Ne.symm hj)]
    cases hs : S[j]? with
    | none =>
      unfold yw
      rw [List.getElem?_map, List.getElem?_map, hs]
      rfl
    | some k2 =>
      rw [yw_at hs, yw_at hs]
      have hne : k2 ≠ k := fun e2 => by
        subst e2
        exact hj (hD.1 j p _ _ (yw_at hs) (yw_at h) rfl)
      rw [va_up_ne _ _ hne]
theorem yw_ext {S : List Nat} {ad ad' : Nat → Nat} {E E' : Nat → va_E} (h : ∀ k ∈ S, ad k = ad' k ∧ E k = E' k) : yw S ad E = yw S ad' E' := by
  unfold yw
  apply List.map_congr_left
  intro k hk
  rw [(h k hk).1, (h k hk).2]
theorem yw_push {S : List Nat} {ad : Nat → Nat} {E : Nat → va_E} {k q : Nat} {e : va_E} (h : k ∉ S) : yw S ad E ++ [(q, e)] = yw (S ++ [k]) (va_up ad k q) (va_up E k e) := by
  rw [show yw (S ++ [k]) (va_up ad k q) (va_up E k e) = yw S (va_up ad k q) (va_up E k e) ++ [(va_up ad k q k, va_up E k e k)] by simp [yw], va_up_self, va_up_self]
  congr 1
  exact yw_ext fun j hj => by
    have : j ≠ k := fun e => h (e ▸ hj)
    rw [va_up_ne _ _ this, va_up_ne _ _ this]
    exact ⟨rfl, rfl⟩
def yrg (b n : Nat) : List Nat := (List.range n).map (fun i => b + i)
theorem mem_yrg {b n k : Nat} : k ∈ yrg b n ↔ b ≤ k ∧ k < b + n := by
  unfold yrg
  rw [List.mem_map]
  constructor
  · rintro ⟨i, hi, rfl⟩
    have := List.mem_range.mp hi
    omega
  · rintro ⟨h1, h2⟩
    exact ⟨k - b, List.mem_range.mpr (by omega), by omega⟩
def yur {α : Type} (f : Nat → α) (b n : Nat) (g : Nat → α) : Nat → α := fun k => if b ≤ k ∧ k < b + n then g (k - b) else f k
theorem yw_rows {S : List Nat} {ad : Nat → Nat} {E : Nat → va_E} {b n : Nat} {r : Nat → Nat} {e : va_E} (h : ∀ k ∈ S, ¬ (b ≤ k ∧ k < b + n)) : yw S ad E ++ ((List.range n).map r).map (fun a => (a, e)) = yw (S ++ yrg b n) (yur ad b n r) (yur E b n (fun _ => e)) := by
  unfold yw yrg
  rw [List.map_append]
  congr 1
  · apply List.map_congr_left
    intro k hk
    simp [yur, h k hk]
  · rw [List.map_map, List.map_map]
    apply List.map_congr_left
    intro i hi
    have := List.mem_range.mp hi
    simp [yur, this]
def ctys (cT : Nat → ClassId) : List (ClassId × FieldType) := [(cT 0, .int), (cT 1, .long), (cT 2, .char), (cT 3, .array .int), (cT 4, .array .long)]
def yK (D : va_G) (cT : Nat → ClassId) (U : State) : Prop := va_K D vwCl (ctys cT) U ∧ (∀ w ∈ xnest, va_Nw w U) ∧ va_AOA .int U ∧ va_AOA .long U
theorem yK.moved {D : va_G} {cT : Nat → ClassId} {u U : State} (hW : u.WarmedH U.vm) (h : yK D cT u) : yK D cT U := ⟨va_K.moved hW.alike h.1, fun w hw => xisn_warm (xnest_is w hw) hW (h.2.1 w hw), h.2.2.1.moved hW.alike, h.2.2.2.moved hW.alike⟩
def yA (b : Nat) : Nat → Prop := fun q => b ≤ q
def yW (D : va_G) (b : Nat) (H0 : Heap) (S : List Nat) (ad : Nat → Nat) (E : Nat → va_E) (H : Heap) (locs : List Loc) : Prop := va_P D vwCl (yw S ad E) H ∧ va_D (yA b) (yw S ad E) ∧ va_S (yA b) H0 H locs ∧ b ≤ H0.size
abbrev yU : Type := (Nat → Nat) × (Nat → va_E)
def yPre (D : va_G) (cT : Nat → ClassId) (b : Nat) (S : List Nat) (ad : Nat → Nat) (E : Nat → va_E) : State → Prop := fun U => va_P D vwCl (yw S ad E) U.heap ∧ va_D (yA b) (yw S ad E) ∧ b ≤ U.heap.size ∧ yK D cT U
theorem yPre_blind {D : va_G} {cT : Nat → ClassId} {b : Nat} {S : List Nat} {ad : Nat → Nat} {E : Nat → va_E} {av : List Value} : FrameBlind (va_Pc av (yPre D cT b S ad E)) := fun a U g mk q => ⟨q.1, q.2.1, q.2.2.1, q.2.2.2.1, va_K.moved (u := U) (U := U.calling g mk a) (Vm.Alike.refl U.vm) q.2.2.2.2.1, fun w hw => xisn_same (xnest_is w hw) (s := U) (U := U.calling g mk a) rfl (q.2.2.2.2.2.1 w hw), q.2.2.2.2.2.2.1, q.2.2.2.2.2.2.2⟩
def yQ (D : va_G) (cT : Nat → ClassId) (b : Nat) (S : List Nat) (post : yU → Prop) : Array Value → State → Outcome → State → Prop := va_Qv post (fun u => yPre D cT b S u.1 u.2) (yA b)
section YR
variable {p : Program} {l : Launch} {e : Env} {R : Room} {s : State} {m : MethodId} {args : Array Value} {below : List Frame} {meth : Method} {c : Code} {H : Heap} {locs : List Loc} {cells slots : Nat} {Q : State → Prop}
variable {cc : ByteArray} {pc : Nat} {ls : Array Slot} {rest : List Value} {D : va_G} {cT : Nat → ClassId} {b : Nat} {H0 : Heap} {S : List Nat} {ad : Nat → Nat} {E : Nat → va_E}
theorem y_put (hx : p.tables.exec = Jvm.exec) (hb : c.code = cc) {own C : String} {T : u_T} {N ci index : Nat} {Ts : List Cond} (hts : ∀ w ∈ Ts, w.before args s = true) (hin : ∀ w ∈ u_ws C T N, w ∈ Ts) (ty0 : Nat → FieldType) (hty : ∀ k, k < N → parseFieldDescriptor (T k).2.2.1 = some (ty0 k)) (hnm : ∀ a, a < N → ∀ b, b < N → a ≠ b → (T a).2.1 ≠ (T b).2.1) (hown : s.vm.findClass own = some m.cls) (hK : yK D cT s) (hw : yW D b H0 S ad E H locs) {q0 k a : Nat} (hk : S[q0]? = some k) (ha : ad k = a) {fs : List Value} (hE : E k = .inr (ci, fs)) (hc : vwCl[ci]? = some (C, T, N)) (j : Nat) (hj : j < N) {ref : String} (hlink : (Cond.fieldLink own index ref (T j).2.1 (T j).2.2.1).before args s = true) (hsame : ∀ x, s.fieldFound? (T j).1 (T j).2.1 (T j).2.2.1 = some x → s.fieldFound? ref (T j).2.1 (T j).2.2.1 = some x) (hfin : (T j).2.2.2 = false) {ty : FieldType} {v : Value} (hd : parseFieldDescriptor (T j).2.2.1 = some ty) (hn : narrow ty v = v) (hfit : fits ty v = true) (hl : j < fs.length) (hdg : decode cc pc = .ok (.putfield index, 3))
    (kk : ∀ (E1 : Nat → va_E) (H1 : Heap) (locs1 : List Loc), E1 = va_up E k (.inr (ci, fs.set j v)) → yW D b H0 S ad E1 H1 locs1 → W p l e R s m args below meth c H1 locs1 cells slots Q (F0 m (pc + 3) ls rest)) : W p l e R s m args below meth c H locs cells slots Q (F0 m pc ls (v :: .ref a :: rest)) := by
  subst ha
  exact va_put hx hb hts hin ty0 hty hnm hown hK.1 hw.1 hw.2.1 hw.2.2.1 q0 (by rw [yw_at hk, hE]) hc j hj hlink hsame hfin hd hn hfit hl hdg (fun H1 locs1 hP hD hS => kk _ H1 locs1 rfl ⟨by rw [yw_set hw.2.1 hk] at hP; exact hP, by rw [yw_set hw.2.1 hk] at hD; exact hD, hS, hw.2.2.2⟩)
theorem y_putF (hx : p.tables.exec = Jvm.exec) (hb : c.code = cc) {own C : String} {T : u_T} {N ci index : Nat} {Ts : List Cond} (hts : ∀ w ∈ Ts, w.before args s = true) (hin : ∀ w ∈ u_ws C T N, w ∈ Ts) (ty0 : Nat → FieldType) (hty : ∀ k, k < N → parseFieldDescriptor (T k).2.2.1 = some (ty0 k)) (hnm : ∀ a, a < N → ∀ b, b < N → a ≠ b → (T a).2.1 ≠ (T b).2.1) (hown : s.vm.findClass own = some m.cls) (hK : yK D cT s) (hw : yW D b H0 S ad E H locs) {q0 k a : Nat} (hk : S[q0]? = some k) (ha : ad k = a) {fs : List Value} (hE : E k = .inr (ci, fs)) (hc : vwCl[ci]? = some (C, T, N)) (j : Nat) (hj : j < N) {ref : String} (hlink : (Cond.fieldLink own index ref (T j).2.1 (T j).2.2.1).before args s = true) (hsame : ∀ x, s.fieldFound? (T j).1 (T j).2.1 (T j).2.2.1 = some x → s.fieldFound? ref (T j).2.1 (T j).2.2.1 = some x) (hfin : (T j).2.2.2 = true) (hin2 : meth.name = "<init>") (hdecl : (T j).1 = own) {ty : FieldType} {v : Value} (hd : parseFieldDescriptor (T j).2.2.1 = some ty) (hn : narrow ty v = v) (hfit : fits ty v = true) (hl : j < fs.length) (hdg : decode cc pc = .ok (.putfield index, 3))
    (kk : ∀ (E1 : Nat → va_E) (H1 : Heap) (locs1 : List Loc), E1 = va_up E k (.inr (ci, fs.set j v)) → yW D b H0 S ad E1 H1 locs1 → W p l e R s m args below meth c H1 locs1 cells slots Q (F0 m (pc + 3) ls rest)) : W p l e R s m args below meth c H locs cells slots Q (F0 m pc ls (v :: .ref a :: rest)) := by
  subst ha
  exact va_putF hx hb hts hin ty0 hty hnm hown hK.1 hw.1 hw.2.1 hw.2.2.1 q0 (by rw [yw_at hk, hE]) hc j hj hlink hsame hfin hin2 hdecl hd hn hfit hl hdg (fun H1 locs1 hP hD hS => kk _ H1 locs1 rfl ⟨by rw [yw_set hw.2.1 hk] at hP; exact hP, by rw [yw_set hw.2.1 hk] at hD; exact hD, hS, hw.2.2.2⟩)
theorem y_get (hx : p.tables.exec = Jvm.exec) (hb : c.code = cc) {own C : String} {T : u_T} {N ci index : Nat} {Ts : List Cond} (hts : ∀ w ∈ Ts, w.before args s = true) (hin : ∀ w ∈ u_ws C T N, w ∈ Ts) (hown : s.vm.findClass own = some m.cls) (hK : yK D cT s) (hw : yW D b H0 S ad E H locs) {q0 k a : Nat} (hk : S[q0]? = some k) (ha : ad k = a) {fs : List Value} (hE : E k = .inr (ci, fs)) (hc : vwCl[ci]? = some (C, T, N)) (j : Nat) (hj : j < N) {ref : String} (hlink : (Cond.fieldLink own index ref (T j).2.1 (T j).2.2.1).before args s = true) (hsame : ∀ x, s.fieldFound? (T j).1 (T j).2.1 (T j).2.2.1 = some x → s.fieldFound? ref (T j).2.1 (T j).2.2.1 = some x) {v : Value} (hv : fs[j]? = some v) (hdg : decode cc pc = .ok (.getfield index, 3))
    (kk : W p l e R s m args below meth c H locs cells slots Q (F0 m (pc + 3) ls (v :: rest))) : W p l e R s m args below meth c H locs cells slots Q (F0 m pc ls (.ref a :: rest)) := by
  subst ha
  exact va_get hx hb hts hin hown hK.1 hw.1 q0 (by rw [yw_at hk, hE]) hc j hj hlink hsame hv hdg kk
theorem y_new (hx : p.tables.exec = Jvm.exec) (hb : c.code = cc) {own C : String} {T : u_T} {N ci index : Nat} {Ts : List Cond} (hts : ∀ w ∈ Ts, w.before args s = true) (hin : ∀ w ∈ u_ws C T N, w ∈ Ts) (ty : Nat → FieldType) (hty : ∀ k, k < N → parseFieldDescriptor (T k).2.2.1 = some (ty k)) (hown : s.vm.findClass own = some m.cls) (hcl : (Cond.classLink own index C).before args s = true) (hinst : (Cond.instantiable C N).before args s = true) (hini : (Cond.initialized C).before args s = true) (hK : yK D cT s) (hw : yW D b H0 S ad E H locs) (k : Nat) (hk : k ∉ S) (hc : vwCl[ci]? = some (C, T, N)) {fs : List Value} (hfs : ∀ j, j < N → defaultValue (ty j) = vp_V fs j) (hcells : cells + 1 ≤ R.cells) (hslots : slots + N ≤ R.slots) (hdg : decode cc pc = .ok (.new index, 3))
    (kk : ∀ (q : Nat) (ad1 : Nat → Nat) (E1 : Nat → va_E) (H1 : Heap), ad1 = va_up ad k q → E1 = va_up E k (.inr (ci, fs)) → yW D b H0 (S ++ [k]) ad1 E1 H1 locs → W p l e R s m args below meth c H1 locs (cells + 1) (slots + N) Q (F0 m (pc + 3) ls (.ref (ad1 k) :: rest))) : W p l e R s m args below meth c H locs cells slots Q (F0 m pc ls rest) :=
  va_new hx hb hts hin ty hty hown hcl hinst hini hK.1 hw.1 hw.2.1 hw.2.2.1 (fun q h => Nat.le_trans hw.2.2.2 h) hc hfs hcells hslots hdg (fun q H1 hP hD hS => by
    rw [yw_push hk] at hP hD
    have := kk q _ _ H1 rfl rfl ⟨hP, hD, hS, hw.2.2.2⟩
    rw [va_up_self] at this
    exact this)
theorem y_newa (hx : p.tables.exec = Jvm.exec) (hb : c.code = cc) {atype : ArrayType} (harr : (Cond.arrayClass (newarray.typeOf atype)).before args s = true) {ty : FieldType} (hty : newarray.typeOf atype = ty) (hK : yK D cT s) (hw : yW D b H0 S ad E H locs) (k : Nat) (hk : k ∉ S) (t : Nat) (ht : (ctys cT)[t]? = some (cT t, ty)) (hra : ∀ cA, va_RA s cA ty → va_RA s (cT t) ty → cA = cT t)
    {n : Int32} {N' : Nat} {a0 : vp_A} (ha : ∀ cA : ClassId, vp_cell cA a0 = arrV cA N' (fun _ => defaultValue ty)) (hn : ¬ n < 0) (hN : n.toNatClampNeg = N') (hbytes : N' * componentBytes ty ≤ 536870912) (hcells : cells + 1 ≤ R.cells) (hslots : slots + N' ≤ R.slots) (hdg : decode cc pc = .ok (.newarray atype, 2))
    (kk : ∀ (q : Nat) (ad1 : Nat → Nat) (E1 : Nat → va_E) (H1 : Heap), ad1 = va_up ad k q → E1 = va_up E k (.inl (cT t, a0)) → yW D b H0 (S ++ [k]) ad1 E1 H1 locs → W p l e R s m args below meth c H1 locs (cells + 1) (slots + N') Q (F0 m (pc + 2) ls (.ref (ad1 k) :: rest))) : W p l e R s m args below meth c H locs cells slots Q (F0 m pc ls (.int n :: rest)) :=
  va_newa hx hb harr hty hK.1 hw.1 hw.2.1 hw.2.2.1 (fun q h => Nat.le_trans hw.2.2.2 h) ha hn hN hbytes hcells hslots hdg (fun q cA H1 hK1 hP hD hS => by
    have e1 : cA = cT t := hra cA (hK1.2 5 (cA, ty) rfl).2 (hK.1.2 t _ ht).2
    subst e1
    rw [yw_push hk] at hP hD
    have := kk q _ _ H1 rfl rfl ⟨hP, hD, hS, hw.2.2.2⟩
    rw [va_up_self] at this
    exact this)
theorem y_mna (hx : p.tables.exec = Jvm.exec) (hb : c.code = cc) {own : String} {index : Nat} {ty : FieldType} (hown : s.vm.findClass own = some m.cls) (hclink : (Cond.classLink own index ("[" ++ (FieldType.array ty).toString)).before args s = true) (hover : va_AOA ty s) (harr : (Cond.arrayClass ty).before args s = true) (hK : yK D cT s) (hw : yW D b H0 S ad E H locs) (k : Nat) (hk : k ∉ S) (ti to : Nat) (hcy : s.vm.findClass (FieldType.array ty).toString = some (cT ti)) (ht : (ctys cT)[to]? = some (cT to, .array ty))
    {n kn : Int32} {N' K' : Nat} {z : vp_A} (rb : Nat) (hrb : ∀ j ∈ S ++ [k], ¬ (rb ≤ j ∧ j < rb + N')) (hn : ¬ n < 0) (hkn : ¬ kn < 0) (hN : n.toNatClampNeg = N') (hM : kn.toNatClampNeg = K')
    (hb1 : N' * 4 ≤ 536870912) (hb2 : K' * componentBytes ty ≤ 536870912) (hb3 : K' ≤ 536870912) (hdf : fits ty (defaultValue ty) = true) (hdd : (defaultValue ty).isDefault = true) (hcells : cells + (1 + N') ≤ R.cells) (hslots : slots + (N' + N' * K') ≤ R.slots) (hz : ∀ c : ClassId, arrV c K' (fun _ => defaultValue ty) = vp_cell c z) (hdg : decode cc pc = .ok (.multianewarray index 2, 4))
    (kk : ∀ (q : Nat) (r : Nat → Nat) (ad1 : Nat → Nat) (E1 : Nat → va_E) (H1 : Heap), ad1 = yur (va_up ad k q) rb N' r → E1 = yur (va_up E k (.inl (cT to, N', .inr (.inr (.inr (.inr (xR ad1 N' rb))))))) rb N' (fun _ => .inl (cT ti, z)) → yW D b H0 ((S ++ [k]) ++ yrg rb N') ad1 E1 H1 locs → W p l e R s m args below meth c H1 locs (cells + 1 + N') (slots + N' + N' * K') Q (F0 m (pc + 4) ls (.ref (ad1 k) :: rest))) : W p l e R s m args below meth c H locs cells slots Q (F0 m pc ls (.int kn :: .int n :: rest)) :=
  va_mna (X := yw S ad E) (L := []) (f := E) hx hb hown hclink hover harr hcy hK.1 (by simp only [va_pl, List.map_nil, List.append_nil]; exact hw.1) (by simp only [va_pl, List.map_nil, List.append_nil]; exact hw.2.1) hw.2.2.1 (fun q h => Nat.le_trans hw.2.2.2 h) hn hkn hN hM hb1 hb2 hb3 hdf hdd hcells hslots hz hdg (fun q r cA H1 hr _ hK1 hP hD hS => by
    have e1 : cA = cT to := Option.some.inj ((hK1.2 5 (cA, .array ty) rfl).2.symm.trans (hK.1.2 to _ ht).2)
    subst e1
    have hkr : ¬ (rb ≤ k ∧ k < rb + N') := hrb k (by simp)
    have hrow : (fun i => if i < N' then some (r i) else none) = xR (yur (va_up ad k q) rb N' r) N' rb := by
      funext i
      unfold xR
      by_cases hi : i < N'
      · simp [hi, yur]
      · simp [hi]
    have hpl : va_pl ([] ++ (List.range N').map r) (vr_up E ((List.range N').map r) (.inl (cT ti, z))) = ((List.range N').map r).map (fun a => (a, .inl (cT ti, z))) := by
      unfold va_pl
      rw [List.nil_append]
      apply List.map_congr_left
      intro a ha
      rw [vr_up_in ha]
    rw [hpl, yw_push hk, yw_rows hrb, hrow] at hP hD
    have := kk q r _ _ H1 rfl rfl ⟨hP, hD, hS, hw.2.2.2⟩
    have e2 : yur (va_up ad k q) rb N' r k = q := by simp [yur, hkr, va_up]
    rw [e2] at this
    exact this)
theorem y_callv {mc ms : Nat} {st0 : List Value} {a : Array Value} {post : yU → Prop} {S1 : List Nat} (hw : yW D b s.heap S ad E H locs) (hr : va_Run p l e R s m args below meth c H locs cells slots mc ms (F0 m pc ls st0) rest (yQ D cT b S1 post a) (yA b))
    (kk : ∀ (ad1 : Nat → Nat) (E1 : Nat → va_E) (H1 : Heap) (locs1 : List Loc), yW D b s.heap S1 ad1 E1 H1 locs1 → post (ad1, E1) → W p l e R s m args below meth c H1 locs1 (cells + mc) (slots + ms) Q (F0 m (pc + 3) ls rest)) : W p l e R s m args below meth c H locs cells slots Q (F0 m pc ls st0) :=
  va_callv hr hw.2.2.1 (fun _ _ h => h) (fun _ h => h) (fun u t H1 locs1 ht _ hp hB _ _ hS => kk u.1 u.2 H1 locs1 ⟨by rw [← ht]; exact hB.1, hB.2.1, hS, hw.2.2.2⟩ hp)
theorem y_preS (hK : yK D cT s) (hw : yW D b s.heap S ad E H locs) {As : List Value} : PreS s H (va_Pc As (yPre D cT b S ad E)) As :=
  ⟨yPre_blind, fun U hU hW => ⟨rfl, by rw [hU]; exact hw.1, hw.2.1, by rw [hU]; exact Nat.le_trans hw.2.2.2 hw.2.2.1.1, hK.moved hW⟩⟩
theorem y_vret (hx : p.tables.exec = Jvm.exec) (hb : c.code = cc) (hr : meth.sig.returnType = none) (hlocks : meth.locks = false) (hK : yK D cT s) (hw : yW D b s.heap S ad E H locs) {post : yU → Prop} (h : post (ad, E)) (hdg : decode cc pc = .ok (.return_, 1)) : W p l e R s m args below meth c H locs cells slots (MQ below (yQ D cT b S post) args s cells slots (yA b)) (F0 m pc ls []) :=
  W.vret hx hb hr (fun t ht hW => ⟨⟨(ad, E), rfl, h, by show va_P _ _ _ t.heap; rw [ht]; exact hw.1, hw.2.1, by rw [ht]; exact Nat.le_trans hw.2.2.2 hw.2.2.1.1, hK.moved hW⟩, hw.2.2.1.F ht⟩) hw.2.2.1.2.2 hdg hlocks
end YR
/-- a constructor's contract out of its walk -/
theorem y_met {l : Launch} {D : va_G} {cT : Nat → ClassId} {b : Nat} {S S1 : List Nat} {ad : Nat → Nat} {E : Nat → va_E} {y : MethodName} {ws ws' : List Cond} {rm : Room} {cc : ByteArray} {maxL mc ms : Nat} {av : List Value} {post : yU → Prop} (own : String) (hown : y.cls = own) (hy : plainName y.cls = true) (hw : ws = Cond.code y cc maxL none :: ws') (hav : (lg_sl av).length ≤ maxL)
    (body : ∀ (p : Program) (e : Env) (s : State) (m : MethodId) (below : List Frame) (meth : Method) (c : Code) (ls : Array Slot), p.tables.exec = Jvm.exec → c.code = cc → meth.sig.returnType = none → (∀ w ∈ ws, w.before av.toArray s = true) → s.vm.findClass own = some m.cls → c.maxLocals = maxL → meth.locks = false → meth.name = y.name → yK D cT s → yW D b s.heap S ad E s.heap [] → lv_has ls maxL (lv_args 0 av) →
      W p l e rm s m av.toArray below meth c s.heap [] 0 0 (MQ below (yQ D cT b S1 post) av.toArray s mc ms (yA b)) (F0 m 0 ls [])) : Met l y ws rm (va_Pc av (yPre D cT b S ad E)) (yQ D cT b S1 post) mc ms (yA b) := by
  refine Met.ofW (cc := cc) (maxL := maxL) (ret := none) hy hw ?_
  intro p e s m args below meth c s₁ B hml hv
  obtain ⟨rfl, hP, hD, hbl, hK⟩ := hv
  have hl := lv_entry av (n := maxL) hav
  rw [lg_entry_eq]
  exact body p e s m below meth c _ B.exec B.bytes B.returns (atoms_spec (ws := ws) B.pre) (by rw [← hown]; exact findClass_of_methodNamed B.named) hml B.notSynchronized (name_of_methodNamed B.named B.method).1 hK ⟨hP, hD, va_S.rf, hbl⟩ hl
theorem yap {S T : List Nat} {p k : Nat} (h : S[p]? = some k) : (S ++ T)[p]? = some k := by
  rw [List.getElem?_append_left (List.getElem?_eq_some_iff.mp h).1]
  exact h
def va_E_o (ci : Nat) (fs : List Value) : va_E := .inr (ci, fs)
def xA0 : xM := fun k j => if k = 1 then (if j = 0 then 15 else if j = 1 then 3000 else 0) else if k = 20 then (if j = 3 then -1 else 0) else if k = 23 then (if j = 2 then 15 else if j = 3 then 3000 else 0) else 0
def xL0 : xL := fun _ _ => 0
theorem xA0_row {k : Nat} (h : 36 ≤ k) : xA0 k = fun _ => 0 := by
  funext j
  unfold xA0
  rw [if_neg (by omega), if_neg (by omega), if_neg (by omega)]
theorem xF_r1 {cT : Nat → ClassId} {ad : Nat → Nat} {a : Nat → Int32} {lo : Nat → Int64} {k : Nat} (h1 : 36 ≤ k) (h2 : k < 100) : xF cT ad a lo k = xla cT 3001 lo := by
  unfold xF
  rw [if_neg (by omega), if_pos h2]
theorem xF_r2 {cT : Nat → ClassId} {ad : Nat → Nat} {a : Nat → Int32} {lo : Nat → Int64} {k : Nat} (h1 : 100 ≤ k) (h2 : k < 164) : xF cT ad a lo k = xia cT 3000 a := by
  unfold xF
  rw [if_neg (by omega), if_neg (by omega), if_pos h2]
theorem xF_r3 {cT : Nat → ClassId} {ad : Nat → Nat} {a : Nat → Int32} {lo : Nat → Int64} {k : Nat} (h1 : 164 ≤ k) (h2 : k < 180) : xF cT ad a lo k = xla cT 3001 lo := by
  unfold xF
  rw [if_neg (by omega), if_neg (by omega), if_neg (by omega), if_pos h2]
theorem xF_r4 {cT : Nat → ClassId} {ad : Nat → Nat} {a : Nat → Int32} {lo : Nat → Int64} {k : Nat} (h1 : 180 ≤ k) (h2 : k < 196) : xF cT ad a lo k = xia cT 3000 a := by
  unfold xF
  rw [if_neg (by omega), if_neg (by omega), if_neg (by omega), if_neg (by omega), if_pos h2]
theorem xF_r5 {cT : Nat → ClassId} {ad : Nat → Nat} {a : Nat → Int32} {lo : Nat → Int64} {k : Nat} (h1 : 196 ≤ k) : xF cT ad a lo k = xia cT 3001 a := by
  unfold xF
  rw [if_neg (by omega), if_neg (by omega), if_neg (by omega), if_neg (by omega), if_neg (by omega)]
/-- the group of a tag, in the order of the making -/
def xg (t : Nat) : Nat := if t = 0 then 8 else if t = 1 then 1 else if t < 8 then 2 else if t < 14 then 3 else if t < 18 then 4 else if t < 20 then 5 else if t < 23 then 6 else if t < 36 then 7 else if t < 164 then 2 else if t < 196 then 3 else 4
theorem xR_ext {ad ad' : Nat → Nat} {n b : Nat} (h : ∀ i, i < n → ad (b + i) = ad' (b + i)) : xR ad n b = xR ad' n b := by
  funext i
  unfold xR
  by_cases hi : i < n
  · rw [if_pos hi, if_pos hi, h i hi]
  · rw [if_neg hi, if_neg hi]
theorem xF_ext {cT : Nat → ClassId} {ad ad' : Nat → Nat} {a : Nat → Int32} {lo : Nat → Int64} {k : Nat} (h : ∀ t, xg t ≤ xg k → ad t = ad' t) : xF cT ad a lo k = xF cT ad' a lo k := by
  by_cases hk : k < 36
  · have key : ∀ t, (∀ u, xg u ≤ xg t → ad u = ad' u) → t < 36 → xF cT ad a lo t = xF cT ad' a lo t := by
      intro t ht h36
      have e : ∀ u, decide (xg u ≤ xg t) = true → ad u = ad' u := fun u hu => ht u (of_decide_eq_true hu)
      have er : ∀ n b, (∀ i, i < n → xg (b + i) ≤ xg t) → xR ad n b = xR ad' n b := fun n b hb => xR_ext fun i hi => ht _ (hb i hi)
      have rg : ∀ b n g, (List.range n).all (fun i => decide (xg (b + i) ≤ g)) = true → ∀ i, i < n → xg (b + i) ≤ g := fun b n g hh i hi => of_decide_eq_true (List.all_eq_true.mp hh i (List.mem_range.mpr hi))
      rcases (show t = 0 ∨ t = 1 ∨ t = 2 ∨ t = 3 ∨ t = 4 ∨ t = 5 ∨ t = 6 ∨ t = 7 ∨ t = 8 ∨ t = 9 ∨ t = 10 ∨ t = 11 ∨ t = 12 ∨ t = 13 ∨ t = 14 ∨ t = 15 ∨ t = 16 ∨ t = 17 ∨ t = 18 ∨ t = 19 ∨ t = 20 ∨ t = 21 ∨ t = 22 ∨ t = 23 ∨ t = 24 ∨ t = 25 ∨ t = 26 ∨ t = 27 ∨ t = 28 ∨ t = 29 ∨ t = 30 ∨ t = 31 ∨ t = 32 ∨ t = 33 ∨ t = 34 ∨ t = 35 by omega) with rfl | rfl | rfl | rfl | rfl | rfl | rfl | rfl | rfl | rfl | rfl | rfl | rfl | rfl | rfl | rfl | rfl | rfl | rfl | rfl | rfl | rfl | rfl | rfl | rfl | rfl | rfl | rfl | rfl | rfl | rfl | rfl | rfl | rfl | rfl | rfl
      · show va_E_o 5 (xfs ad a 0) = va_E_o 5 (xfs ad' a 0)
        simp only [xfs, e 1 (by decide), e 2 (by decide), e 8 (by decide), e 14 (by decide), e 18 (by decide), e 20 (by decide)]
      · rfl
      · show va_E_o 1 (xfs ad a 2) = va_E_o 1 (xfs ad' a 2)
        simp only [xfs, e 1 (by decide), e 3 (by decide), e 4 (by decide), e 5 (by decide), e 6 (by decide), e 7 (by decide)]
      · rfl
      · show xra cT 4 64 (xR ad 64 36) = xra cT 4 64 (xR ad' 64 36)
        rw [er 64 36 (rg 36 64 _ (by decide))]
      · show xra cT 3 64 (xR ad 64 100) = xra cT 3 64 (xR ad' 64 100)
        rw [er 64 100 (rg 100 64 _ (by decide))]
      · rfl
      · rfl
      · show va_E_o 1 (xfs ad a 3) = va_E_o 1 (xfs ad' a 3)
        simp only [xfs, e 1 (by decide), e 9 (by decide), e 10 (by decide), e 11 (by decide), e 12 (by decide), e 13 (by decide)]
      · rfl
      · show xra cT 4 16 (xR ad 16 164) = xra cT 4 16 (xR ad' 16 164)
        rw [er 16 164 (rg 164 16 _ (by decide))]
      · show xra cT 3 16 (xR ad 16 180) = xra cT 3 16 (xR ad' 16 180)
        rw [er 16 180 (rg 180 16 _ (by decide))]
      · rfl
      · rfl
      · show va_E_o 0 (xfs ad a 4) = va_E_o 0 (xfs ad' a 4)
        simp only [xfs, e 8 (by decide), e 15 (by decide), e 16 (by decide), e 17 (by decide)]
      · rfl
      · show xra cT 3 5 (xR ad 5 196) = xra cT 3 5 (xR ad' 5 196)
        rw [er 5 196 (rg 196 5 _ (by decide))]
      · rfl
      · show va_E_o 2 (xfs ad a 5) = va_E_o 2 (xfs ad' a 5)
        simp only [xfs, e 19 (by decide)]
      · rfl
      · show va_E_o 4 (xfs ad a 6) = va_E_o 4 (xfs ad' a 6)
        simp only [xfs, e 21 (by decide), e 22 (by decide)]
      · rfl
      · rfl
      · show va_E_o 6 (xfs ad a 7) = va_E_o 6 (xfs ad' a 7)
        simp only [xfs, e 24 (by decide), e 25 (by decide), e 26 (by decide), e 27 (by decide), e 28 (by decide), e 29 (by decide), e 30 (by decide), e 31 (by decide), e 32 (by decide), e 33 (by decide), e 34 (by decide), e 35 (by decide)]
      · rfl
      · rfl
      · rfl
      · rfl
      · rfl
      · rfl
      · rfl
      · rfl
      · rfl
      · rfl
      · rfl
      · rfl
    exact key k h hk
  · by_cases h1 : k < 100
    · rw [xF_r1 (by omega) h1, xF_r1 (by omega) h1]
    · by_cases h2 : k < 164
      · rw [xF_r2 (by omega) h2, xF_r2 (by omega) h2]
      · by_cases h3 : k < 180
        · rw [xF_r3 (by omega) h3, xF_r3 (by omega) h3]
        · by_cases h4 : k < 196
          · rw [xF_r4 (by omega) h4, xF_r4 (by omega) h4]
          · rw [xF_r5 (by omega), xF_r5 (by omega)]
theorem y_inner (c : ClassId) (K : Nat) (v : Value) : arrV c K (fun _ => v) = arrV c K (fun _ => v) := rfl
theorem yur_ne {α : Type} {f : Nat → α} {b n : Nat} {g : Nat → α} {k : Nat} (h : ¬ (b ≤ k ∧ k < b + n)) : yur f b n g k = f k := if_neg h
theorem yur_in {α : Type} {f : Nat → α} {b n : Nat} {g : Nat → α} {k : Nat} (h : b ≤ k ∧ k < b + n) : yur f b n g k = g (k - b) := if_pos h
theorem y_nm {S : List Nat} {t k : Nat} (h : t ∉ S) (hk : t ≠ k) : t ∉ S ++ [k] := by
  intro h2
  rcases List.mem_append.mp h2 with h3 | h3
  · exact h h3
  · exact hk (List.mem_singleton.mp h3)
theorem y_nmr {S : List Nat} {t b n : Nat} (h : t ∉ S) (hk : ¬ (b ≤ t ∧ t < b + n)) : t ∉ S ++ yrg b n := by
  intro h2
  rcases List.mem_append.mp h2 with h3 | h3
  · exact h h3
  · exact hk (mem_yrg.mp h3)
theorem y_hr1 {S : List Nat} {k rb n : Nat} (h : ∀ j ∈ S, ¬ (rb ≤ j ∧ j < rb + n)) (hk : ¬ (rb ≤ k ∧ k < rb + n)) : ∀ j ∈ S ++ [k], ¬ (rb ≤ j ∧ j < rb + n) := by
  intro j hj
  rcases List.mem_append.mp hj with h3 | h3
  · exact h j h3
  · rw [List.mem_singleton.mp h3]; exact hk
theorem y_hrr {S : List Nat} {b m rb n : Nat} (h : ∀ j ∈ S, ¬ (rb ≤ j ∧ j < rb + n)) (hk : b + m ≤ rb ∨ rb + n ≤ b) : ∀ j ∈ S ++ yrg b m, ¬ (rb ≤ j ∧ j < rb + n) := by
  intro j hj
  rcases List.mem_append.mp hj with h3 | h3
  · exact h j h3
  · have := mem_yrg.mp h3
    omega
