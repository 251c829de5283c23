/-! printing: the class -/
theorem nar_c {c : Nat} (h : c < 65536) : vp_nar .char (nI c) = nI c := by
  have e : ((nI c).toUInt32 % 65536).toInt32 = nI c := by
    rw [pk_char, pk_tn (by omega), Nat.mod_eq_of_lt h]
  rw [← e]
  exact pk_vc _
theorem xmc_mk {a : Nat} (h : a < 4) : xmc (nI a) = nI (mk a) := by
  rcases (show a = 0 ∨ a = 1 ∨ a = 2 ∨ a = 3 by omega) with rfl | rfl | rfl | rfl <;> decide +kernel
theorem mk_lt (a : Nat) : mk a < 65536 := by
  unfold mk
  repeat' split
  all_goals omega
/-- the text in the class' memory -/
def CT (A0 A : xM) (T : List Nat) : Prop := A 18 1 = nI T.length ∧ (∀ i, i < T.length → A 19 i = nI (T.getD i 0)) ∧ ∀ a b, a ≠ 19 → ¬ (a = 18 ∧ b = 1) → A a b = A0 a b
theorem getD_app {T : List Nat} {c i : Nat} : (T ++ [c]).getD i 0 = if i = T.length then c else T.getD i 0 := by
  simp only [List.getD_eq_getElem?_getD]
  by_cases h : i < T.length
  · rw [List.getElem?_append_left h, if_neg (by omega)]
  · rw [List.getElem?_append_right (by omega)]
    by_cases e : i = T.length
    · rw [if_pos e, e]; simp
    · rw [if_neg e, List.getElem?_eq_none (by simp; omega), List.getElem?_eq_none (by omega)]
theorem c_add {A0 A : xM} {L : xL} {T : List Nat} {c : Nat} (h : CT A0 A T) (hT : T.length < 33) (hc : c < 65536) {post : xM → xL → Prop} (k : ∀ A', CT A0 A' (T ++ [c]) → post A' L) : v_X2_add (nI c) A L post := by
  obtain ⟨h1, h2, h3⟩ := id h
  unfold v_X2_add
  rw [h1]
  refine ⟨fun c => absurd c (nI_pos (by omega)), fun _ => pk_le 33 T.length (fun c => absurd c (by omega)) (fun _ => ⟨pk_in T.length 33 hT, fun A4 e4 A5 e5 => ?_⟩)⟩
  rw [nar_c hc, nI_clamp (show T.length < 2 ^ 31 by omega)] at e4
  have a4 : A4 18 1 = nI T.length := by rw [e4]; unfold xu; rw [if_neg (by omega)]; exact h1
  rw [a4, nI_1] at e5
  refine k A5 ⟨by rw [e5]; simp [xu], fun i hi => ?_, fun a b g1 g2 => ?_⟩
  · rw [List.length_append] at hi
    simp at hi
    rw [e5, e4, getD_app]; unfold xu
    rw [if_neg (by omega)]
    by_cases e : i = T.length
    · rw [if_pos ⟨rfl, e⟩, if_pos e]
    · rw [if_neg (by omega), if_neg e]; exact h2 i (by omega)
  · rw [e5, e4]; unfold xu
    rw [if_neg g2, if_neg (by omega)]
    exact h3 a b g1 g2
theorem dgt {v u : Nat} (hv : v < 2 ^ 31) (hu : 0 < u) (hu2 : u < 2 ^ 31) : ((((48 : Int32) + ((nI v / nI u) - (nI v / nI u) / (10 : Int32) * (10 : Int32)))).toUInt32 % 65536).toInt32 = nI (48 + v / u % 10) := by
  have hd := Nat.div_le_self v u
  have hm := Nat.mod_lt (v / u) (show 0 < 10 by decide)
  rw [pk_div hv hu hu2, show (10 : Int32) = nI 10 from rfl, pk_rem (by omega) (by omega) (by omega), show (48 : Int32) = nI 48 from rfl, nI_add, pk_char, pk_tn (by omega), Nat.mod_eq_of_lt (by omega)]
theorem c_addNumber {A0 A : xM} {L : xL} {T : List Nat} {v : Nat} (h : CT A0 A T) (hT : T.length + 3 ≤ 33) (hv1 : 1 ≤ v) (hv : v ≤ 100) {post : xM → xL → Prop} (k : ∀ A', CT A0 A' (T ++ dg v) → post A' L) : v_X2_addNumber (nI v) A L post := by
  unfold v_X2_addNumber
  have d4 : ∀ (A : xM), CT A0 A (T ++ dg v) → v_X2_addNumber_4 (nI v) post 1 0 A L := fun A hA => by
    unfold v_X2_addNumber_4
    exact ⟨fun _ => k A hA, fun c => absurd (by decide) c⟩
  have d3 : ∀ (A : xM) (T' : List Nat), CT A0 A T' → T'.length < 33 → T' ++ [48 + v % 10] = T ++ dg v → v_X2_addNumber_4 (nI v) post 2 1 A L := fun A T' hA hl e => by
    unfold v_X2_addNumber_4 v_X2_addNumber_27
    refine ⟨fun c => absurd c (by decide), fun _ => pk_lt v 1 (fun c => absurd c (by omega)) (fun _ => ⟨by decide, ?_⟩)⟩
    rw [show (1 : Int32) = nI 1 from rfl, dgt (by omega) (by omega) (by omega), Nat.div_one]
    refine c_add hA hl (by omega) (fun A' hA' x e2 => ?_)
    rw [e] at hA'
    rw [e2, show nI 1 / 10 = 0 by decide]
    exact d4 A' hA'
  have d2 : ∀ (A : xM) (T' : List Nat), CT A0 A T' → T'.length + 1 < 33 → T' ++ ((if 9 < v then [48 + v / 10 % 10] else []) ++ [48 + v % 10]) = T ++ dg v → v_X2_addNumber_4 (nI v) post 3 10 A L := fun A T' hA hl e => by
    unfold v_X2_addNumber_4 v_X2_addNumber_27
    refine ⟨fun c => absurd c (by decide), fun _ => pk_lt v 10 (fun c x e2 => ?_) (fun c => ⟨by decide, ?_⟩)⟩
    · rw [e2, show (10 : Int32) / 10 = 1 by decide]
      rw [if_neg (by omega)] at e
      exact d3 A T' hA (by omega) e
    · rw [if_pos (by omega), ← List.append_assoc] at e
      rw [show (10 : Int32) = nI 10 from rfl, show (((48 : Int32) + (nI v / nI 10 - nI v / nI 10 / nI 10 * nI 10)).toUInt32 % 65536).toInt32 = nI (48 + v / 10 % 10) from dgt (by omega) (by omega) (by omega)]
      refine c_add hA (by omega) (by omega) (fun A' hA' x e2 => ?_)
      rw [e2, show nI 10 / nI 10 = 1 by decide]
      exact d3 A' _ hA' (by simp; omega) e
  have d1 : v_X2_addNumber_4 (nI v) post 4 100 A L := by
    unfold v_X2_addNumber_4 v_X2_addNumber_27
    refine ⟨fun c => absurd c (by decide), fun _ => pk_lt v 100 (fun c x e2 => ?_) (fun c => ⟨by decide, ?_⟩)⟩
    · rw [e2, show (100 : Int32) / 10 = 10 by decide]
      refine d2 A T h (by omega) ?_
      unfold dg
      rw [if_neg (show ¬ 99 < v by omega)]
      rfl
    · rw [show (100 : Int32) = nI 100 from rfl, dgt (by omega) (by omega) (by omega)]
      have hv0 : v = 100 := by omega
      refine c_add h (by omega) (by omega) (fun A' hA' x e2 => ?_)
      rw [e2, show nI 100 / 10 = 10 by decide]
      refine d2 A' _ hA' (by simp; omega) ?_
      unfold dg
      rw [if_pos (show 99 < v by omega), hv0]
      simp
  refine ⟨5, ?_⟩
  unfold v_X2_addNumber_4 v_X2_addNumber_27
  refine ⟨fun c => absurd c (by decide), fun _ => pk_lt v 1000 (fun c x e2 => ?_) (fun c => absurd c (by omega))⟩
  rw [e2, show (1000 : Int32) / 10 = 100 by decide]
  exact d1
/-- the y that goes with an x -/
theorem c_right {a x v : Nat} (ha : a < 4) (hx1 : 1 ≤ x) (hx : x < 3001) (hv1 : 1 ≤ v) (hv : v < 3001) {post : Int32 → Prop} (h : ∀ r, (oth a x v = 0 → r.toInt < 1) → (1 ≤ oth a x v → r = nI (oth a x v)) → post r) : v_X5_rightNumber (nI a) (nI x) (nI v) post := by
  have m1 : (-1 : Int32).toInt < 1 := by decide
  unfold v_X5_rightNumber
  refine ⟨fun c => ?_, fun c => ?_, fun c => ?_, fun c => ?_⟩
  · rw [nI_toInt (by omega)] at c
    have : a = 3 := by omega
    subst this
    have eo : oth 3 x v = if x % v = 0 then x / v else 0 := by simp [oth]
    have hn : ¬ nI v = 0 := nI_ne0 (by omega) (by omega)
    have hlt := Nat.mod_lt x (show 0 < v by omega)
    refine pk_le v 0 (fun c => absurd c (by omega)) (fun _ => ⟨hn, ?_⟩)
    rw [pk_rem (by omega) (by omega) (by omega), pk_div (by omega) (by omega) (by omega)]
    refine ⟨fun c3 => ?_, fun c3 => ⟨hn, ?_⟩⟩
    · have : x % v ≠ 0 := fun e2 => c3 (by rw [e2]; rfl)
      rw [if_neg this] at eo
      exact h _ (fun _ => m1) (fun q => by omega)
    · have : x % v = 0 := (nI_eq (a := x % v) (b := 0) (by omega) (by omega)).mp c3
      rw [if_pos this] at eo
      have := Nat.div_pos (Nat.le_of_dvd hx1 (Nat.dvd_of_mod_eq_zero this)) (show 0 < v by omega)
      exact h _ (fun q => by omega) (fun _ => by rw [eo])
  · have : a = 0 := (nI_eq (b := 0) (by omega) (by omega)).mp c
    subst this
    have eo : oth 0 x v = v - x := by simp [oth]
    refine h _ (fun q => ?_) (fun q => ?_)
    · rw [pk_sub_toInt (by omega) (by omega)]; omega
    · rw [pk_sub (by omega), eo]
  · have : a = 1 := (nI_eq (b := 1) (by omega) (by omega)).mp c
    subst this
    have eo : oth 1 x v = x - v := by simp [oth]
    refine h _ (fun q => ?_) (fun q => ?_)
    · rw [pk_sub_toInt (by omega) (by omega)]; omega
    · rw [pk_sub (by omega), eo]
  · have : a = 2 := (nI_eq (b := 2) (by omega) (by omega)).mp c
    subst this
    have eo : oth 2 x v = if v % x = 0 then v / x else 0 := by simp [oth]
    have hn : ¬ nI x = 0 := nI_ne0 (by omega) (by omega)
    have hlt := Nat.mod_lt v (show 0 < x by omega)
    refine pk_le x 0 (fun c => absurd c (by omega)) (fun _ => ⟨hn, ?_⟩)
    rw [pk_rem (by omega) (by omega) (by omega), pk_div (by omega) (by omega) (by omega)]
    refine ⟨fun c3 => ?_, fun c3 => ⟨hn, ?_⟩⟩
    · have : v % x ≠ 0 := fun e2 => c3 (by rw [e2]; rfl)
      rw [if_neg this] at eo
      exact h _ (fun _ => m1) (fun q => by omega)
    · have : v % x = 0 := (nI_eq (a := v % x) (b := 0) (by omega) (by omega)).mp c3
      rw [if_pos this] at eo
      have := Nat.div_pos (Nat.le_of_dvd hv1 (Nat.dvd_of_mod_eq_zero this)) (show 0 < x by omega)
      exact h _ (fun q => by omega) (fun _ => by rw [eo])
section CP
variable {A : xM} {L : xL} {P : Nat → Nat → Nat} {fl : Nat → Nat → Nat} {nf : Nat → Nat} {ac : Nat}
theorem c_left (hv9 : HV 0 A L P fl nf) (hac : A 1 0 = nI ac) {set left a v : Nat} (hs : set < 64) (hl1 : 1 ≤ left) (hl : left < set) (ha : a < 4) (hv1 : 1 ≤ v) (hv : v < 3001) {post : Int32 → Prop} (h : post (if fx P ac set v left a = 0 then -1 else nI (fx P ac set v left a))) : v_X1_leastLeftNumber 0 (nI set) (nI left) (nI a) (nI v) A L post := by
  have no : okA ac set left a = false → post (-1) := fun e => by
    rw [fx_0 (fun q => by rw [e] at q; exact absurd q (by decide)), if_pos rfl] at h
    exact h
  have w6 := w_fin6 set hs left hl hl1
  have hz0 : ∀ s, s < 64 → P s 0 = 0 := fun s hs9 => (hv9.1 s (by omega)).2.1
  -- behind the guards
  have main : wpB set left = true → (wfB set left || (decide (a = 1) || decide (a = 3))) = true → v_X1_leastLeftNumber_49 0 (nI set) (nI left) (nI a) (nI v) A L post := by
    intro hw hok
    have hf := w_fin set hs left (by omega) hw
    have hlt := wpB_lt hf.1
    unfold v_X1_leastLeftNumber_49
    refine s_allow (k := a) hac ha ⟨fun c => ?_, fun c => no ?_⟩
    · have hb := aI_0.2 c
      have ok : okA ac set left a = true := by unfold okA; rw [hw, hb, hok]; rfl
      refine pk_lt left 1 (fun c => absurd c (by omega)) (fun _ => pk_lt left 64 (fun _ => ?_) (fun c => absurd c (by omega)))
      obtain ⟨r1, r2, r3, r4, r5, r6, r7⟩ := hv9.1 left (by omega)
      have hnf := (hv9.1 left (by omega)).nf_le
      have hpos := fun {i : Nat} (hi : i < nf left) => (hv9.1 left (by omega)).pos hi
      have hcl : (nI left).toNatClampNeg = left := nI_clamp (by omega)
      refine pk_loop (σ := Int32) (fun f i t => v_X1_leastLeftNumber_84 0 (nI set) (nI left) (nI a) (nI v) A L post f t (nI i))
        (fun i t => (t = -1 ∧ ∀ j, j < i → cnd P set v left a (fl left j) = false) ∨ ∃ x, t = nI x ∧ x < 3001 ∧ cnd P set v left a x = true ∧ ∀ j, j < i → cnd P set v left a (fl left j) = true → x ≤ fl left j) (nf left) 0 (-1) (Nat.zero_le _) (Or.inl ⟨rfl, fun j hj => by omega⟩) (fun f t hI => ?_) (fun f i t hi hI kk => ?_)
      · unfold v_X1_leastLeftNumber_84
        rw [hcl, show A (6 + 6 * 0) left = nI (nf left) from r4]
        refine ⟨pk_in left _ (by omega), pk_le (nf left) (nf left) (fun _ => ?_) (fun c => absurd c (by omega))⟩
        rcases hI with ⟨e, g⟩ | ⟨x, e, g1, g2, g3⟩
        · rw [fx_0 (fun _ x q1 q2 => by
            cases hc : cnd P set v left a x
            · rfl
            · have hc2 := hc
              unfold cnd at hc2
              rw [Bool.and_eq_true, Bool.and_eq_true, decide_eq_true_eq, decide_eq_true_eq] at hc2
              obtain ⟨j, hj, ej⟩ := r7 x q2 hc2.2.1
              have := g j hj
              rw [ej, hc] at this
              exact this), if_pos rfl] at h
          rw [e]; exact h
        · have ge1 : 1 ≤ x := by
            have hc2 := g2
            unfold cnd at hc2
            rw [Bool.and_eq_true, decide_eq_true_eq] at hc2
            exact hc2.1
          rw [fx_1 ok g1 g2 (fun y q1 q2 => by
            cases hc : cnd P set v left a y
            · rfl
            · have hc2 := hc
              unfold cnd at hc2
              rw [Bool.and_eq_true, Bool.and_eq_true, decide_eq_true_eq, decide_eq_true_eq] at hc2
              obtain ⟨j, hj, ej⟩ := r7 y (by omega) hc2.2.1
              have := g3 j hj (by rw [ej]; exact hc)
              omega), if_neg (by omega)] at h
          rw [e]; exact h
      · unfold v_X1_leastLeftNumber_84
        rw [hcl, show A (6 + 6 * 0) left = nI (nf left) from r4]
        refine ⟨pk_in left _ (by omega), pk_le (nf left) i (fun c => absurd c (by omega)) (fun _ => ⟨pk_in i 3000 (by omega), fun x9 e9 => ?_⟩)⟩
        obtain ⟨f1, f2, f3⟩ := r5 i hi
        have f4 := hpos hi
        rw [nI_clamp (show i < 2 ^ 31 by omega)] at e9
        have e9 : x9 = nI (fl left i) := e9.trans f1
        subst e9
        generalize hx9 : fl left i = x at f1 f2 f3 f4
        refine c_right ha f4 f2 hv1 hv (fun r hr0 hr1 => ?_)
        rw [fb_xorI]
        have nxt : ∀ x3 : Int32, x3 = nI i + 1 → x3 = nI (i + 1) := fun x3 ex => by rw [ex]; exact nI_1 i
        have body : ∀ q : Bool, q = cnd P set v left a x → v_X1_leastLeftNumber_131 0 (nI set) (nI left) (nI a) (nI v) t (nI i) (nI x) (bI q) A L (fun x7 x8 => v_X1_leastLeftNumber_84 0 (nI set) (nI left) (nI a) (nI v) A L post f x7 x8) post := by
          intro q hq
          unfold v_X1_leastLeftNumber_131
          refine ⟨fun c x8 e8 => ?_, fun c => ?_⟩
          · have c := bI_0.1 c
            rw [nxt x8 e8]
            refine kk t ?_
            have hc : cnd P set v left a (fl left i) = false := by rw [hx9, ← hq, c]
            rcases hI with ⟨e, g⟩ | ⟨y, e, g1, g2, g3⟩
            · exact Or.inl ⟨e, fun j hj => by
                by_cases e2 : j = i
                · rw [e2]; exact hc
                · exact g j (by omega)⟩
            · exact Or.inr ⟨y, e, g1, g2, fun j hj hj2 => by
                by_cases e2 : j = i
                · rw [e2, hc] at hj2; exact absurd hj2 (by decide)
                · exact g3 j (by omega) hj2⟩
          · have c := bI_0.2 c
            have hc : cnd P set v left a x = true := by rw [← hq, c]
            have take : (∀ j, j < i → cnd P set v left a (fl left j) = true → x ≤ fl left j) → ∀ x8 : Int32, x8 = nI i + 1 → v_X1_leastLeftNumber_84 0 (nI set) (nI left) (nI a) (nI v) A L post f (nI x) x8 := fun g x8 e8 => by
              rw [nxt x8 e8]
              refine kk (nI x) (Or.inr ⟨x, rfl, f2, hc, fun j hj hj2 => ?_⟩)
              by_cases e2 : j = i
              · rw [e2, hx9]; exact Nat.le_refl _
              · exact g j (by omega) hj2
            rcases hI with ⟨e, g⟩ | ⟨y, e, g1, g2, g3⟩
            · rw [e]
              exact ⟨fun _ => take fun j hj hj2 => by rw [g j hj] at hj2; exact absurd hj2 (by decide), fun c2 => absurd rfl c2⟩
            · rw [e]
              refine ⟨fun c2 => ?_, fun _ => pk_le y x (fun c3 x8 e8 => ?_) (fun c3 => take fun j hj hj2 => ?_)⟩
              · have := congrArg Int32.toInt c2
                rw [nI_toInt (by omega), show (-1 : Int32).toInt = -1 by decide] at this
                omega
              · rw [nxt x8 e8, ← e]
                refine kk t (Or.inr ⟨y, e, g1, g2, fun j hj hj2 => ?_⟩)
                by_cases e2 : j = i
                · rw [e2, hx9]; exact c3
                · exact g3 j (by omega) hj2
              · have := g3 j hj hj2; omega
        have cnt : ∀ z : Int64, z = lN (P (set ^^^ left) (oth a x v)) → ((lg_cmp z 0 ≤ 0 → v_X1_leastLeftNumber_131 0 (nI set) (nI left) (nI a) (nI v) t (nI i) (nI x) (0 : Int32) A L (fun x7 x8 => v_X1_leastLeftNumber_84 0 (nI set) (nI left) (nI a) (nI v) A L post f x7 x8) post) ∧ (¬ lg_cmp z 0 ≤ 0 → v_X1_leastLeftNumber_131 0 (nI set) (nI left) (nI a) (nI v) t (nI i) (nI x) (1 : Int32) A L (fun x7 x8 => v_X1_leastLeftNumber_84 0 (nI set) (nI left) (nI a) (nI v) A L post f x7 x8) post)) := fun z ez => by
          have ho := oth_lt (act := a) (x := x) (v := v) f2 hv
          have hbd := hv9.bd (s := set ^^^ left) (v := oth a x v) (by omega) ho
          rw [ez, lpos (by omega)]
          have ec : cnd P set v left a x = decide (0 < P (set ^^^ left) (oth a x v)) := by
            unfold cnd; rw [decide_eq_true f4, decide_eq_true f3]; rfl
          refine ⟨fun c => ?_, fun c => ?_⟩
          · have := body false (by rw [ec]; exact (decide_eq_false (by omega)).symm)
            exact this
          · have := body true (by rw [ec]; exact (decide_eq_true (by omega)).symm)
            exact this
        by_cases o0 : oth a x v = 0
        · refine c_countN (Or.inl (hr0 o0)) (cnt _ ?_)
          rw [o0, hz0 _ (by omega)]; rfl
        · rw [hr1 (by omega)]
          exact c_count (by decide) hv9 hlt.1 (by omega) (by omega) (oth_lt f2 hv) (cnt _ rfl)
    · have := aI_0.1 c
      unfold okA
      rw [this]; simp
  have g30 : ∀ (fixed : Bool), fixed = !(decide (a = 1) || decide (a = 3)) → ∀ hb : Bool, (wpB set left = true → hb = wfB set left) → v_X1_leastLeftNumber_30 0 (nI set) (nI left) (nI a) (nI v) (bI hb) (bI fixed) A L post := by
    intro fixed hfx hb hhb
    unfold v_X1_leastLeftNumber_30
    rw [fa_and]
    have hle : left &&& set ≤ left := Nat.and_le_left
    refine ⟨fun c => no ?_, fun c => ?_⟩
    · have : wpB set left = false := by
        cases hw : wpB set left
        · rfl
        · exact absurd (by rw [w6.mp hw]) c
      unfold okA; rw [this]; rfl
    · have c : left &&& set = left := (nI_eq (by omega) (by omega)).mp c
      have hw := w6.mpr c
      have hhb := hhb hw
      refine ⟨fun c2 => main hw ?_, fun c2 => ⟨fun c3 => no ?_, fun c3 => main hw ?_⟩⟩
      · have := bI_0.1 c2
        rw [hfx] at this
        rw [Bool.not_eq_false'] at this
        rw [this, Bool.or_true]
      · have e1 := bI_0.2 c2
        have e2 := bI_0.1 c3
        rw [hfx, Bool.not_eq_true'] at e1
        unfold okA
        rw [← hhb, e2, e1]; simp
      · rw [← hhb, bI_0.2 c3]; rfl
  have g14 : ∀ hb : Bool, (wpB set left = true → hb = wfB set left) → v_X1_leastLeftNumber_14 0 (nI set) (nI left) (nI a) (nI v) (bI hb) A L post := by
    intro hb hhb
    unfold v_X1_leastLeftNumber_14
    refine ⟨fun c => ?_, fun c => ⟨fun c2 => ?_, fun c2 => ?_⟩⟩
    · have : a = 0 := (nI_eq (b := 0) (by omega) (by omega)).mp c
      subst this
      exact g30 true (by decide) hb hhb
    · have e1 : a ≠ 0 := fun e => c (by rw [e]; rfl)
      have e2 : a ≠ 2 := fun e => c2 (by rw [e]; rfl)
      refine g30 false ?_ hb hhb
      rcases (show a = 1 ∨ a = 3 by omega) with rfl | rfl <;> decide
    · have : a = 2 := (nI_eq (b := 2) (by omega) (by omega)).mp c2
      subst this
      exact g30 true (by decide) hb hhb
  unfold v_X1_leastLeftNumber
  refine ⟨fun c => g14 false (fun hw => ?_), fun c => g14 true (fun hw => ?_)⟩
  · exact ((r_fin2 set hs left (by omega) hw).mp c).symm
  · cases hb : wfB set left
    · exact absurd ((r_fin2 set hs left (by omega) hw).mpr hb) c
    · rfl
end CP
