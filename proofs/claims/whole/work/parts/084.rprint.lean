/-! printing: the reference -/
/-- text and what is still to be done (the next first) in the reference's memory -/
def RT (A0 A : xM) (T : List Nat) (S : List (Nat × Nat)) : Prop := A 23 7 = nI T.length ∧ (∀ i, i < T.length → A 26 i = nI (T.getD i 0)) ∧ A 23 16 = nI S.length ∧ (∀ i, i < S.length → A 31 i = nI (S.getD (S.length - 1 - i) (0, 0)).1 ∧ A 32 i = nI (S.getD (S.length - 1 - i) (0, 0)).2) ∧ ∀ a b, a ≠ 26 → a ≠ 31 → a ≠ 32 → ¬ (a = 23 ∧ (b = 7 ∨ b = 16)) → A a b = A0 a b
theorem r_put {A0 A : xM} {L : xL} {T : List Nat} {S : List (Nat × Nat)} {c : Nat} (h : RT A0 A T S) (hT : T.length < 100) {post : xM → xL → Prop} (k : ∀ A', RT A0 A' (T ++ [c]) S → post A' L) : v_X6_put (nI c) A L post := by
  obtain ⟨h1, h2, h3, h4, h5⟩ := id h
  unfold v_X6_put
  rw [h1]
  refine ⟨pk_in T.length 100 hT, fun A2 e2 A3 e3 => ?_⟩
  rw [nI_clamp (show T.length < 2 ^ 31 by omega)] at e2
  have a2 : A2 23 7 = nI T.length := by rw [e2]; unfold xu; rw [if_neg (by omega)]; exact h1
  rw [a2, nI_1] at e3
  have fr : ∀ a b, a ≠ 26 → ¬ (a = 23 ∧ b = 7) → A3 a b = A a b := fun a b c1 c2 => by
    rw [e3, e2]; unfold xu
    rw [if_neg c2, if_neg (by omega)]
  refine k A3 ⟨by rw [e3]; simp [xu], fun i hi => ?_, by rw [fr _ _ (by omega) (by omega)]; exact h3, fun i hi => by rw [fr _ _ (by omega) (by omega), fr _ _ (by omega) (by omega)]; exact h4 i hi, fun a b c1 c2 c3 c4 => by rw [fr a b c1 (by omega)]; exact h5 a b c1 c2 c3 c4⟩
  rw [List.length_append] at hi
  simp at hi
  rw [e3, e2, getD_app]; unfold xu
  rw [if_neg (by omega)]
  by_cases e : i = T.length
  · rw [if_pos ⟨rfl, e⟩, if_pos e]
  · rw [if_neg (by omega), if_neg e]; exact h2 i (by omega)
theorem r_later {A0 A : xM} {L : xL} {T : List Nat} {S : List (Nat × Nat)} {s u : Nat} (h : RT A0 A T S) (hS : S.length < 40) {post : xM → xL → Prop} (k : ∀ A', RT A0 A' T ((s, u) :: S) → post A' L) : v_X6_later (nI s) (nI u) A L post := by
  obtain ⟨h1, h2, h3, h4, h5⟩ := id h
  unfold v_X6_later
  rw [h3]
  refine ⟨pk_in S.length 40 hS, fun A2 e2 => ?_⟩
  rw [nI_clamp (show S.length < 2 ^ 31 by omega)] at e2
  have a2 : A2 23 16 = nI S.length := by rw [e2]; unfold xu; rw [if_neg (by omega)]; exact h3
  rw [a2]
  refine ⟨pk_in S.length 40 hS, fun A4 e4 A5 e5 => ?_⟩
  rw [nI_clamp (show S.length < 2 ^ 31 by omega)] at e4
  have a4 : A4 23 16 = nI S.length := by rw [e4]; unfold xu; rw [if_neg (by omega)]; exact a2
  rw [a4, nI_1] at e5
  have fr : ∀ a b, ¬ (a = 31 ∧ b = S.length) → ¬ (a = 32 ∧ b = S.length) → ¬ (a = 23 ∧ b = 16) → A5 a b = A a b := fun a b c1 c2 c3 => by
    rw [e5, e4, e2]; unfold xu
    rw [if_neg c3, if_neg c2, if_neg c1]
  refine k A5 ⟨by rw [fr _ _ (by omega) (by omega) (by omega)]; exact h1, fun i hi => by rw [fr _ _ (by omega) (by omega) (by omega)]; exact h2 i hi, by rw [e5]; simp [xu], fun i hi => ?_, fun a b c1 c2 c3 c4 => by rw [fr a b (by omega) (by omega) (by omega)]; exact h5 a b c1 c2 c3 c4⟩
  rw [List.length_cons] at hi ⊢
  by_cases e : i = S.length
  · subst e
    rw [show S.length + 1 - 1 - S.length = 0 by omega]
    constructor
    · rw [e5, e4, e2]; unfold xu
      rw [if_neg (by omega), if_neg (by omega), if_pos ⟨rfl, rfl⟩]
      rfl
    · rw [e5, e4]; unfold xu
      rw [if_neg (by omega), if_pos ⟨rfl, rfl⟩]
      rfl
  · rw [show S.length + 1 - 1 - i = (S.length - 1 - i) + 1 by omega, List.getD_cons_succ, fr _ _ (by omega) (by omega) (by omega), fr _ _ (by omega) (by omega) (by omega)]
    exact h4 i (by omega)
theorem r_putNumber {A0 A : xM} {L : xL} {T : List Nat} {S : List (Nat × Nat)} {v : Nat} (h : RT A0 A T S) (hT : T.length + 3 ≤ 100) (hv : v ≤ 100) {post : xM → xL → Prop} (k : ∀ A', RT A0 A' (T ++ dg v) S → post A' L) : v_X6_putNumber (nI v) A L post := by
  have d3 : ∀ (A : xM) (T' : List Nat), RT A0 A T' S → T'.length < 100 → T' ++ [48 + v % 10] = T ++ dg v → v_X6_putNumber_37 (nI v) A L post := fun A T' hA hl e => by
    unfold v_X6_putNumber_37
    rw [show (10 : Int32) = nI 10 from rfl, pk_rem (by omega) (by omega) (by omega), show (48 : Int32) = nI 48 from rfl, nI_add]
    refine r_put hA hl (fun A' hA' => k A' ?_)
    rw [e] at hA'
    exact hA'
  have d2 : ∀ (A : xM) (T' : List Nat), RT A0 A T' S → T'.length + 1 < 100 → T' ++ ((if 9 < v then [48 + v / 10 % 10] else []) ++ [48 + v % 10]) = T ++ dg v → v_X6_putNumber_17 (nI v) A L post := fun A T' hA hl e => by
    unfold v_X6_putNumber_17
    refine pk_le v 9 (fun c => ?_) (fun c => ?_)
    · rw [if_neg (by omega)] at e
      exact d3 A T' hA (by omega) e
    · rw [if_pos (by omega), ← List.append_assoc] at e
      have hd := Nat.div_le_self v 10
      rw [show (10 : Int32) = nI 10 from rfl, pk_div (by omega) (by omega) (by omega), pk_rem (by omega) (by omega) (by omega), show (48 : Int32) = nI 48 from rfl, nI_add]
      refine r_put hA (by omega) (fun A' hA' => ?_)
      exact d3 A' _ hA' (by simp; omega) e
  unfold v_X6_putNumber
  refine pk_le v 99 (fun c => ?_) (fun c => ?_)
  · refine d2 A T h (by omega) ?_
    unfold dg
    rw [if_neg (show ¬ 99 < v by omega)]
    rfl
  · rw [show (100 : Int32) = nI 100 from rfl, pk_div (by omega) (by omega) (by omega), show (48 : Int32) = nI 48 from rfl, nI_add]
    refine r_put h (by omega) (fun A' hA' => ?_)
    refine d2 A' _ hA' (by simp; omega) ?_
    unfold dg
    rw [if_pos (show 99 < v by omega)]
    simp
theorem r_other {a x v : Nat} (ha : a < 4) (hx1 : 1 ≤ x) (hx : x < 3001) (hv1 : 1 ≤ v) (hv : v < 3001) {post : Int32 → Prop} (h : ∀ r, (oth a x v = 0 → r = -1) → (1 ≤ oth a x v → r = nI (oth a x v)) → post r) : v_X6_other (nI a) (nI x) (nI v) post := by
  unfold v_X6_other
  refine ⟨fun c => ?_, fun c => ?_, fun c => ?_, fun c => ?_⟩
  · rw [nI_toInt (by omega)] at c
    have : a = 3 := by omega
    subst this
    have eo : oth 3 x v = if x % v = 0 then x / v else 0 := by simp [oth]
    have hn : ¬ nI v = 0 := nI_ne0 (by omega) (by omega)
    have hlt := Nat.mod_lt x (show 0 < v by omega)
    refine ⟨hn, ?_⟩
    rw [pk_rem (by omega) (by omega) (by omega), pk_div (by omega) (by omega) (by omega)]
    refine ⟨fun c3 => ?_, fun c3 => ⟨hn, ?_⟩⟩
    · have : x % v ≠ 0 := fun e2 => c3 (by rw [e2]; rfl)
      rw [if_neg this] at eo
      exact h _ (fun _ => rfl) (fun q => by omega)
    · have : x % v = 0 := (nI_eq (a := x % v) (b := 0) (by omega) (by omega)).mp c3
      rw [if_pos this] at eo
      have := Nat.div_pos (Nat.le_of_dvd hx1 (Nat.dvd_of_mod_eq_zero this)) (show 0 < v by omega)
      exact h _ (fun q => by omega) (fun _ => by rw [eo])
  · have : a = 0 := (nI_eq (b := 0) (by omega) (by omega)).mp c
    subst this
    have eo : oth 0 x v = v - x := by simp [oth]
    refine pk_le v x (fun c => h _ (fun _ => rfl) (fun q => by omega)) (fun c => h _ (fun q => by omega) (fun q => ?_))
    rw [pk_sub (by omega), eo]
  · have : a = 1 := (nI_eq (b := 1) (by omega) (by omega)).mp c
    subst this
    have eo : oth 1 x v = x - v := by simp [oth]
    refine pk_le x v (fun c => h _ (fun _ => rfl) (fun q => by omega)) (fun c => h _ (fun q => by omega) (fun q => ?_))
    rw [pk_sub (by omega), eo]
  · have : a = 2 := (nI_eq (b := 2) (by omega) (by omega)).mp c
    subst this
    have eo : oth 2 x v = if v % x = 0 then v / x else 0 := by simp [oth]
    have hn : ¬ nI x = 0 := nI_ne0 (by omega) (by omega)
    have hlt := Nat.mod_lt v (show 0 < x by omega)
    refine ⟨hn, ?_⟩
    rw [pk_rem (by omega) (by omega) (by omega), pk_div (by omega) (by omega) (by omega)]
    refine ⟨fun c3 => ?_, fun c3 => ⟨hn, ?_⟩⟩
    · have : v % x ≠ 0 := fun e2 => c3 (by rw [e2]; rfl)
      rw [if_neg this] at eo
      exact h _ (fun _ => rfl) (fun q => by omega)
    · have : v % x = 0 := (nI_eq (a := v % x) (b := 0) (by omega) (by omega)).mp c3
      rw [if_pos this] at eo
      have := Nat.div_pos (Nat.le_of_dvd hv1 (Nat.dvd_of_mod_eq_zero this)) (show 0 < x by omega)
      exact h _ (fun q => by omega) (fun _ => by rw [eo])
theorem r_sign {a : Nat} (ha : a < 4) {post : Int32 → Prop} (h : post (nI (mk a))) : v_X6_signOf (nI a) post := by
  unfold v_X6_signOf
  rcases (show a = 0 ∨ a = 1 ∨ a = 2 ∨ a = 3 by omega) with rfl | rfl | rfl | rfl
  · exact ⟨fun c => absurd rfl c, fun _ => h⟩
  · exact ⟨fun _ => ⟨fun c => absurd rfl c, fun _ => h⟩, fun c => absurd c (by decide)⟩
  · exact ⟨fun _ => ⟨fun _ => ⟨fun c => absurd rfl c, fun _ => h⟩, fun c => absurd c (by decide)⟩, fun c => absurd c (by decide)⟩
  · exact ⟨fun _ => ⟨fun _ => ⟨fun _ => h, fun c => absurd c (by decide)⟩, fun c => absurd c (by decide)⟩, fun c => absurd c (by decide)⟩
section RP
variable {A0 : xM} {L : xL} {P : Nat → Nat → Nat} {n ac : Nat}
theorem r_part {A : xM} (hR : RR P n A0 L) (hac : A0 23 2 = nI ac) (h16 : ac < 16) (hz0 : ∀ s, P s 0 = 0) {set v : Nat} {T : List Nat} {S : List (Nat × Nat)} (hs1 : 1 ≤ set) (hs : set < 2 ^ n) (hv1 : 1 ≤ v) (hv : v < 3001) (hT : RT A0 A T S) (hTl : T.length < 100) (hSl : S.length < 37) {post : xM → xL → Prop}
    (k0 : ¬ fz P ac set v < 4 * set → post A L)
    (k1 : fz P ac set v < 4 * set → ∀ A', RT A0 A' (T ++ [40]) ((fz P ac set v / 4, fx P ac set v (fz P ac set v / 4) (fz P ac set v % 4)) :: (0, mk (fz P ac set v % 4)) :: (set ^^^ (fz P ac set v / 4), oth (fz P ac set v % 4) (fx P ac set v (fz P ac set v / 4) (fz P ac set v % 4)) v) :: (0, 41) :: S) → post A' L) : v_X6_part (nI set) (nI v) A L post := by
  have hpw := hR.pow
  have hRA : RR P n A L := ⟨hR.1, by rw [hT.2.2.2.2 _ _ (by omega) (by omega) (by omega) (by omega)]; exact hR.2.1, hR.2.2⟩
  have hacA : A 23 2 = nI ac := by rw [hT.2.2.2.2 _ _ (by omega) (by omega) (by omega) (by omega)]; exact hac
  unfold v_X6_part
  refine pk_loop (σ := Unit) (fun f l _ => v_X6_part_2 (nI set) (nI v) post f (nI l) A L) (fun l _ => 1 ≤ l ∧ ∀ k, k < 4 * l → fk P ac set v k = false) set 1 () hs1 ⟨Nat.le_refl _, fun k hk => by unfold fk; rw [decide_eq_false (by omega)]; rfl⟩ (fun f _ hI => ?_) (fun f l _ hl hI k2 => ?_)
  · unfold v_X6_part_2
    refine pk_le set set (fun _ => k0 ?_) (fun c => absurd c (by omega))
    have : fz P ac set v = 4 * set := ff_no hI.2
    omega
  · obtain ⟨hl1, hI⟩ := hI
    unfold v_X6_part_2
    have nxl : ∀ x3 : Int32, x3 = nI l + 1 → x3 = nI (l + 1) := fun x3 ex => by rw [ex]; exact nI_1 l
    have r3 := r_fin3 set (by omega) l hl hl1
    have g21 : ∀ q : Bool, (wpB set l = true → q = wfB set l) → v_X6_part_21 (nI set) (nI v) (nI l) (bI q) A L (fun x3 A L => v_X6_part_2 (nI set) (nI v) post f x3 A L) post := by
      intro q hq
      unfold v_X6_part_21
      refine pk_loop (σ := Unit) (fun f' a _ => v_X6_part_26 (nI set) (nI v) (nI l) (bI q) (fun x3 A L => v_X6_part_2 (nI set) (nI v) post f x3 A L) post f' (nI a) A L) (fun a _ => ∀ k, k < 4 * l + a → fk P ac set v k = false) 4 0 () (by omega) hI (fun f' _ hI => ?_) (fun f' a _ ha hI k3 => ?_)
      · unfold v_X6_part_26
        refine pk_le 4 4 (fun _ x3 e3 => ?_) (fun c => absurd c (by omega))
        rw [nxl x3 e3]
        exact k2 () ⟨by omega, hI⟩
      · unfold v_X6_part_26
        have nxa : ∀ x3 : Int32, x3 = nI a + 1 → x3 = nI (a + 1) := fun x3 ex => by rw [ex]; exact nI_1 a
        refine pk_le 4 a (fun c => absurd c (by omega)) (fun _ => ⟨fun c x3 e3 => ?_, fun c => ?_⟩)
        · rw [nxl x3 e3]
          have hw : okA ac set l = fun _ => false := funext fun a' => by
            have : wpB set l = false := by
              cases hb : wpB set l
              · rfl
              · exact absurd (r3.mpr hb) c
            unfold okA; rw [this]; rfl
          refine k2 () ⟨by omega, fun k hk => ?_⟩
          by_cases e : k < 4 * l
          · exact hI k (by omega)
          · have ek : k = 4 * l + (k - 4 * l) := by omega
            rw [ek, fk_at (by omega) hl1, fx_0 (fun q => by
              rw [hw] at q
              exact absurd q Bool.false_ne_true)]
            rfl
        · have hw := r3.mp c
          have hq := hq hw
          have hf := w_fin set (by omega) l (by omega) hw
          have hlt := wpB_lt hf.1
          have er := r_fin1 set (by omega) l (by omega) hw
          -- no x for this act
          have stop : fx P ac set v l a = 0 → ∀ x5 : Int32, x5 = nI a + 1 → v_X6_part_26 (nI set) (nI v) (nI l) (bI q) (fun x3 A L => v_X6_part_2 (nI set) (nI v) post f x3 A L) post f' x5 A L := fun hx x5 e5 => by
            rw [nxa x5 e5]
            refine k3 () (fun k hk => ?_)
            by_cases e : k = 4 * l + a
            · rw [e, fk_at ha hl1, hx]; rfl
            · exact hI k (by omega)
          have g70 : okA ac set l a = false → v_X6_part_70 (nI set) (nI v) (nI l) (bI q) (nI a) A L (fun x3 A L => v_X6_part_2 (nI set) (nI v) post f x3 A L) (fun x5 A L => v_X6_part_26 (nI set) (nI v) (nI l) (bI q) (fun x3 A L => v_X6_part_2 (nI set) (nI v) post f x3 A L) post f' x5 A L) post := fun ok => by
            unfold v_X6_part_70 v_X6_part_71
            refine ⟨1, ?_⟩
            unfold v_X6_part_76
            exact ⟨fun c => absurd c (by decide), fun _ => ⟨fun _ => stop (fx_0 fun q => by rw [ok] at q; exact absurd q (by decide)), fun c => absurd rfl c⟩⟩
          have g71 : okA ac set l a = true → v_X6_part_71 (nI set) (nI v) (nI l) (bI q) (nI a) (1 : Int32) A L (fun x3 A L => v_X6_part_2 (nI set) (nI v) post f x3 A L) (fun x5 A L => v_X6_part_26 (nI set) (nI v) (nI l) (bI q) (fun x3 A L => v_X6_part_2 (nI set) (nI v) post f x3 A L) post f' x5 A L) post := fun ok => by
            unfold v_X6_part_71
            refine pk_loop (σ := Unit) (fun f'' x _ => v_X6_part_76 (nI set) (nI v) (nI l) (bI q) (nI a) 1 (fun x3 A L => v_X6_part_2 (nI set) (nI v) post f x3 A L) (fun x5 A L => v_X6_part_26 (nI set) (nI v) (nI l) (bI q) (fun x3 A L => v_X6_part_2 (nI set) (nI v) post f x3 A L) post f' x5 A L) post f'' (nI x) A L) (fun x _ => 1 ≤ x ∧ ∀ y, 1 ≤ y → y < x → cnd P set v l a y = false) 3001 1 () (by omega) ⟨Nat.le_refl _, fun y h1 h2 => by omega⟩ (fun f'' _ hI2 => ?_) (fun f'' x _ hx hI2 k4 => ?_)
            · unfold v_X6_part_76
              exact pk_lt 3000 3001 (fun _ => stop (fx_0 fun _ y h1 h2 => hI2.2 y h1 h2)) (fun c => absurd c (by omega))
            · obtain ⟨hx1, hI2⟩ := hI2
              unfold v_X6_part_76
              have nxx : ∀ x3 : Int32, x3 = nI x + 1 → x3 = nI (x + 1) := fun x3 ex => by rw [ex]; exact nI_1 x
              have miss : cnd P set v l a x = false → ∀ x7 : Int32, x7 = nI x + 1 → v_X6_part_76 (nI set) (nI v) (nI l) (bI q) (nI a) 1 (fun x3 A L => v_X6_part_2 (nI set) (nI v) post f x3 A L) (fun x5 A L => v_X6_part_26 (nI set) (nI v) (nI l) (bI q) (fun x3 A L => v_X6_part_2 (nI set) (nI v) post f x3 A L) post f' x5 A L) post f'' x7 A L := fun hc x7 e7 => by
                rw [nxx x7 e7]
                refine k4 () ⟨by omega, fun y h1 h2 => ?_⟩
                by_cases e : y = x
                · rw [e]; exact hc
                · exact hI2 y h1 (by omega)
              have row := r_row hRA (s := l) (v := x) (by omega) hx1 hx
              refine pk_lt 3000 x (fun c => absurd c (by omega)) (fun _ => ⟨fun c => absurd c (by decide), fun _ => ?_⟩)
              rw [row.2, hRA.lp]
              refine ⟨row.1, fun c2 => ?_, fun c2 => ?_⟩
              · unfold v_X6_part_120
                refine ⟨fun _ => miss ?_, fun c3 => absurd (by decide) c3⟩
                unfold cnd; rw [decide_eq_false (show ¬ 0 < P l x by omega)]; simp
              · refine r_other ha hx1 hx hv1 hv (fun r hr0 hr1 => ?_)
                unfold v_X6_part_120
                have ho := oth_lt (act := a) (x := x) (v := v) hx hv
                by_cases o0 : oth a x v = 0
                · rw [hr0 o0]
                  refine ⟨fun _ => miss ?_, fun c3 => absurd (by decide) c3⟩
                  unfold cnd; rw [o0, hz0]; simp
                · rw [hr1 (by omega), er]
                  have row2 := r_row hRA (s := set ^^^ l) (v := oth a x v) (by omega) (by omega) ho
                  rw [row2.2, hRA.lp]
                  refine ⟨fun c3 => absurd c3 (nI_nle (by omega) (by omega)), fun _ => ⟨row2.1, fun c3 => miss ?_, fun c3 => ?_⟩⟩
                  · unfold cnd; rw [decide_eq_false (show ¬ 0 < P (set ^^^ l) (oth a x v) by omega)]; simp
                  · have hc : cnd P set v l a x = true := by
                      unfold cnd
                      rw [decide_eq_true hx1, decide_eq_true (show 0 < P l x by omega), decide_eq_true (show 0 < P (set ^^^ l) (oth a x v) by omega)]; rfl
                    have ex := fx_1 ok hx hc hI2
                    have ez := fz_yes ha hl1 hl hI (by rw [ex]; omega)
                    have K := k1 (by omega)
                    rw [ez, show (4 * l + a) / 4 = l by omega, show (4 * l + a) % 4 = a by omega, ex] at K
                    refine r_later (s := 0) (u := 41) hT (by omega) (fun A1 t1 => r_later t1 (by simp; omega) (fun A2 t2 => r_sign ha (r_later (s := 0) t2 (by simp; omega) (fun A3 t3 => r_later t3 (by simp; omega) (fun A4 t4 => r_put (c := 40) t4 hTl (fun A5 t5 => K A5 t5))))))
          have okE : okA ac set l a = (ac.testBit a && (q || (decide (a = 1) || decide (a = 3)))) := by
            unfold okA; rw [hw, hq]; rfl
          refine s_may (k := a) hacA h16 ha ⟨fun c2 => g70 ?_, fun c2 => ⟨fun c3 => g71 ?_, fun c3 => ⟨fun c4 => g71 ?_, fun c4 => ⟨fun c5 => g70 ?_, fun c5 => g71 ?_⟩⟩⟩⟩
          · rw [okE, aI_0.1 c2]; rfl
          · rw [okE, aI_0.2 c2, bI_0.2 c3]; rfl
          · have : a = 1 := (nI_eq (b := 1) (by omega) (by omega)).mp c4
            rw [okE, aI_0.2 c2, decide_eq_true this]; simp
          · have e1 : a ≠ 1 := fun e => c4 (by rw [e]; rfl)
            have e2 : a ≠ 3 := fun e => c5 (by rw [e]; rfl)
            rw [okE, bI_0.1 c3, decide_eq_false e1, decide_eq_false e2]; simp
          · have : a = 3 := (nI_eq (b := 3) (by omega) (by omega)).mp c5
            rw [okE, aI_0.2 c2, decide_eq_true this]; simp
    refine pk_le set l (fun c => absurd c (by omega)) (fun _ => ⟨fun c => g21 false (fun hw => ?_), fun c => g21 true (fun hw => ?_)⟩)
    · exact ((r_fin2 set (by omega) l (by omega) hw).mp c).symm
    · cases hb : wfB set l
      · exact absurd ((r_fin2 set (by omega) l (by omega) hw).mpr hb) c
      · rfl
def tE (P : Nat → Nat → Nat) (ac : Nat) (e : Nat × Nat) : List Nat := if e.1 = 0 then [e.2] else wW2 P ac e.1 e.2
def wE (e : Nat × Nat) : Nat := if e.1 = 0 then 1 else 6 * pb e.1 - 3
def ev (P : Nat → Nat → Nat) (ac : Nat) : List (Nat × Nat) → List Nat
  | [] => []
  | e :: s => tE P ac e ++ ev P ac s
def wt : List (Nat × Nat) → Nat
  | [] => 0
  | e :: s => wE e + wt s
def okE (P : Nat → Nat → Nat) (n : Nat) (e : Nat × Nat) : Prop := e.1 = 0 ∨ (1 ≤ e.1 ∧ e.1 < 2 ^ n ∧ 1 ≤ e.2 ∧ e.2 < 3001 ∧ 0 < P e.1 e.2)
def okS (P : Nat → Nat → Nat) (n : Nat) : List (Nat × Nat) → Prop
  | [] => True
  | e :: s => okE P n e ∧ okS P n s
theorem wE_pos {e : Nat × Nat} (h : okE P n e) (hpw : 2 ^ n ≤ 64) : 1 ≤ wE e := by
  unfold wE
  split
  · omega
  · rcases h with h | h
    · omega
    · have := pb_pos e.1 (by omega) h.1
      omega
theorem wt_len (hpw : 2 ^ n ≤ 64) : ∀ {S : List (Nat × Nat)}, okS P n S → S.length ≤ wt S
  | [], _ => Nat.zero_le _
  | e :: s, h => by
    have h1 := wE_pos h.1 hpw
    have h2 := wt_len hpw h.2
    show s.length + 1 ≤ wE e + wt s
    omega
theorem r_prints (hR : RR P n A0 L) (hac : A0 23 2 = nI ac) (h16 : ac < 16) (hz0 : ∀ s, P s 0 = 0) (hlf : ∀ s u, pb s = 1 → 0 < P s u → u ≤ 100) : ∀ (f : Nat) (S : List (Nat × Nat)) (T : List Nat) (A : xM) (post : Int32 → xM → xL → Prop), wt S < f → okS P n S → T.length + wt S ≤ 33 → RT A0 A T S → (∀ A', RT A0 A' (T ++ ev P ac S) [] → post (nI (T ++ ev P ac S).length) A' L) → v_X6_printed_16 post f A L := by
  have hpw := hR.pow
  intro f
  induction f with
  | zero => intro S T A post h; omega
  | succ f ih =>
    intro S T A post hN hok hlen hT kk
    obtain ⟨t1, t2, t3, t4, t5⟩ := id hT
    have wl := wt_len hpw hok
    unfold v_X6_printed_16
    cases S with
    | nil =>
      rw [t3, t1]
      refine pk_le 0 0 (fun _ => ?_) (fun c => absurd c (by omega))
      have := kk A (by
        show RT A0 A (T ++ []) []
        rw [List.append_nil]; exact hT)
      have e : T ++ ev P ac [] = T := List.append_nil T
      rw [e] at this
      exact this
    | cons e s =>
      obtain ⟨ok1, ok2⟩ := hok
      have hw1 := wE_pos ok1 hpw
      have hlen : T.length + (wE e + wt s) ≤ 33 := hlen
      have hN : wE e + wt s < f + 1 := hN
      have t3 : A 23 16 = nI (s.length + 1) := t3
      have wls := wt_len hpw ok2
      have kk : ∀ A', RT A0 A' (T ++ (tE P ac e ++ ev P ac s)) [] → post (nI (T ++ (tE P ac e ++ ev P ac s)).length) A' L := kk
      have top := t4 s.length (by show s.length < s.length + 1; omega)
      rw [show (e :: s).length - 1 - s.length = 0 by show s.length + 1 - 1 - s.length = 0; omega] at top
      rw [t3]
      refine pk_le (s.length + 1) 0 (fun c => absurd c (by omega)) (fun _ A2 e2 => ?_)
      rw [nI_pred] at e2
      have r2 : RT A0 A2 T s := by
        have fr : ∀ a b, ¬ (a = 23 ∧ b = 16) → A2 a b = A a b := fun a b h => by rw [e2]; unfold xu; rw [if_neg h]
        refine ⟨by rw [fr _ _ (by omega)]; exact t1, fun i hi => by rw [fr _ _ (by omega)]; exact t2 i hi, by rw [e2]; simp [xu], fun i hi => ?_, fun a b c1 c2 c3 c4 => by rw [fr a b (by omega)]; exact t5 a b c1 c2 c3 c4⟩
        rw [fr _ _ (by omega), fr _ _ (by omega)]
        have := t4 i (by show i < s.length + 1; omega)
        rw [show (e :: s).length - 1 - i = (s.length - 1 - i) + 1 by show s.length + 1 - 1 - i = _; omega, List.getD_cons_succ] at this
        exact this
      have a16 : A2 23 16 = nI s.length := r2.2.2.1
      rw [a16]
      refine ⟨pk_in s.length 40 (by omega), fun x3 e3 x4 e4 => ?_⟩
      rw [nI_clamp (show s.length < 2 ^ 31 by omega), e2] at e3 e4
      have e3 : x3 = nI e.1 := by rw [e3]; unfold xu; rw [if_neg (by omega)]; exact top.1
      have e4 : x4 = nI e.2 := by rw [e4]; unfold xu; rw [if_neg (by omega)]; exact top.2
      subst e3
      subst e4
      have he1 : e.1 < 64 := by rcases ok1 with h | h <;> omega
      have hpb := pb_64 e.1 he1
      refine ⟨fun c => ?_, fun c => ?_⟩
      · have c0 : e.1 ≠ 0 := fun q => c (by rw [q]; rfl)
        have ew : wE e = 6 * pb e.1 - 3 := by unfold wE; rw [if_neg c0]
        have et : tE P ac e = wW2 P ac e.1 e.2 := by unfold tE; rw [if_neg c0]
        obtain ⟨o1, o2, o3, o4, o5⟩ : 1 ≤ e.1 ∧ e.1 < 2 ^ n ∧ 1 ≤ e.2 ∧ e.2 < 3001 ∧ 0 < P e.1 e.2 := by
          rcases ok1 with h | h
          · exact absurd h c0
          · exact h
        refine s_bits (by omega) ⟨fun c2 => ?_, fun c2 => ?_⟩
        · have c2 : pb e.1 ≠ 1 := fun q => c2 (by rw [q]; rfl)
          refine r_part hR hac h16 hz0 o1 o2 o3 o4 r2 (by omega) (by omega) (fun nf => ?_) (fun yf A3 r3 => ?_)
          · refine ih s T A2 post (by omega) ok2 (by omega) r2 (fun A' r' => ?_)
            rw [et, tx_none c2 nf] at kk
            exact kk A' r'
          · have pt := fz_parts he1 yf hz0 o4
            have nd := tx_node he1 c2 yf
            dsimp only at pt
            generalize fz P ac e.1 e.2 / 4 = l at pt nd r3
            generalize fz P ac e.1 e.2 % 4 = a at pt nd r3
            generalize fx P ac e.1 e.2 l a = x at pt nd r3
            obtain ⟨q1, q2, q3, q4, q5, q6, q7, q8, q9, q10, q11, q12, q13, q14, q15⟩ := pt
            have w1 : wE (l, x) = 6 * pb l - 3 := by
              show (if l = 0 then 1 else 6 * pb l - 3) = _
              rw [if_neg (by omega)]
            have w2 : wE (e.1 ^^^ l, oth a x e.2) = 6 * pb (e.1 ^^^ l) - 3 := by
              show (if e.1 ^^^ l = 0 then 1 else 6 * pb (e.1 ^^^ l) - 3) = _
              rw [if_neg (by omega)]
            have wS : wt ((l, x) :: (0, mk a) :: (e.1 ^^^ l, oth a x e.2) :: (0, 41) :: s) = 6 * pb l - 3 + (1 + (6 * pb (e.1 ^^^ l) - 3 + (1 + wt s))) := by
              show wE (l, x) + (1 + (wE (e.1 ^^^ l, oth a x e.2) + (1 + wt s))) = _
              rw [w1, w2]
            refine ih ((l, x) :: (0, mk a) :: (e.1 ^^^ l, oth a x e.2) :: (0, 41) :: s) (T ++ [40]) A3 post (by rw [wS]; omega) ⟨Or.inr ⟨q1, by show l < 2 ^ n; omega, q7, q8, q9⟩, Or.inl rfl, Or.inr ⟨q3, by show e.1 ^^^ l < 2 ^ n; omega, q10, q11, q12⟩, Or.inl rfl, ok2⟩ (by rw [wS]; simp; omega) r3 (fun A' r' => ?_)
            have eq : T ++ [40] ++ ev P ac ((l, x) :: (0, mk a) :: (e.1 ^^^ l, oth a x e.2) :: (0, 41) :: s) = T ++ (tE P ac e ++ ev P ac s) := by
              have x1 : tE P ac (l, x) = wW2 P ac l x := by
                show (if l = 0 then [x] else wW2 P ac l x) = _
                rw [if_neg (by omega)]
              have x2 : tE P ac (e.1 ^^^ l, oth a x e.2) = wW2 P ac (e.1 ^^^ l) (oth a x e.2) := by
                show (if e.1 ^^^ l = 0 then [oth a x e.2] else wW2 P ac (e.1 ^^^ l) (oth a x e.2)) = _
                rw [if_neg (by omega)]
              show T ++ [40] ++ (tE P ac (l, x) ++ ([mk a] ++ (tE P ac (e.1 ^^^ l, oth a x e.2) ++ ([41] ++ ev P ac s)))) = _
              rw [x1, x2, et, nd]
              simp only [List.append_assoc, List.cons_append, List.nil_append]
            rw [eq] at r' ⊢
            exact kk A' r'
        · have c2 : pb e.1 = 1 := (nI_eq (a := pb e.1) (b := 1) (by omega) (by omega)).mp c2
          refine r_putNumber r2 (by omega) (hlf e.1 e.2 c2 o5) (fun A3 r3 => ?_)
          have dl3 := dg_len e.2
          refine ih s (T ++ dg e.2) A3 post (by omega) ok2 (by rw [List.length_append]; omega) r3 (fun A' r' => ?_)
          rw [et, tx_leaf c2, ← List.append_assoc] at kk
          exact kk A' r'
      · have c0 : e.1 = 0 := (nI_eq (a := e.1) (b := 0) (by omega) (by omega)).mp c
        have ew : wE e = 1 := by unfold wE; rw [if_pos c0]
        have et : tE P ac e = [e.2] := by unfold tE; rw [if_pos c0]
        refine r_put r2 (by omega) (fun A3 r3 => ?_)
        refine ih s (T ++ [e.2]) A3 post (by omega) ok2 (by simp; omega) r3 (fun A' r' => ?_)
        rw [et, ← List.append_assoc] at kk
        exact kk A' r'
theorem r_printed {A : xM} (hR : RR P n A L) (hac : A 23 2 = nI ac) (h16 : ac < 16) (hz0 : ∀ s, P s 0 = 0) (hlf : ∀ s u, pb s = 1 → 0 < P s u → u ≤ 100) {set v : Nat} (h1 : 1 ≤ set) (h2 : set < 2 ^ n) (hv1 : 1 ≤ v) (hv : v < 3001) (hP : 0 < P set v) {post : Int32 → xM → xL → Prop} (k : ∀ A', RT A A' (wW2 P ac set v) [] → post (nI (wW2 P ac set v).length) A' L) : v_X6_printed (nI set) (nI v) A L post := by
  have hpw := hR.pow
  have hpb := pb_64 set (by omega)
  unfold v_X6_printed
  intro A1 e1 A2 e2
  have T0 : RT A A2 [] [] := by
    refine ⟨by rw [e2, e1]; unfold xu; rw [if_neg (by omega), if_pos ⟨rfl, rfl⟩]; rfl, fun i hi => absurd hi (by simp), by rw [e2]; simp [xu]; rfl, fun i hi => absurd hi (by simp), fun a b _ _ _ c4 => ?_⟩
    rw [e2, e1]; unfold xu
    rw [if_neg (by omega), if_neg (by omega)]
  refine r_later T0 (by simp) (fun A3 r3 => ⟨wt [(set, v)] + 1, ?_⟩)
  have ew : wt [(set, v)] = 6 * pb set - 3 := by
    show (if set = 0 then 1 else 6 * pb set - 3) + 0 = _
    rw [if_neg (by omega)]; rfl
  refine r_prints hR hac h16 hz0 hlf _ [(set, v)] [] A3 post (by omega) ⟨Or.inr ⟨h1, h2, hv1, hv, hP⟩, trivial⟩ (by rw [ew]; show 0 + _ ≤ 33; omega) r3 (fun A' r' => ?_)
  have et : ([] : List Nat) ++ ev P ac [(set, v)] = wW2 P ac set v := by
    show [] ++ ((if set = 0 then [v] else wW2 P ac set v) ++ []) = _
    rw [if_neg (by omega), List.append_nil, List.nil_append]
  rw [et] at r' ⊢
  exact k A' r'
end RP
