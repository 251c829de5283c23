theorem fk_at {P : Nat → Nat → Nat} {ac set v l a : Nat} (ha : a < 4) (hl : 1 ≤ l) : fk P ac set v (4 * l + a) = decide (fx P ac set v l a ≠ 0) := by
  unfold fk
  rw [decide_eq_true (show 4 ≤ 4 * l + a by omega), show (4 * l + a) / 4 = l by omega, show (4 * l + a) % 4 = a by omega]
  rfl
theorem fz_yes {P : Nat → Nat → Nat} {ac set v l a : Nat} (ha : a < 4) (hl : 1 ≤ l) (hls : l < set) (h : ∀ k, k < 4 * l + a → fk P ac set v k = false) (hx : fx P ac set v l a ≠ 0) : fz P ac set v = 4 * l + a :=
  ff_yes (by omega) h (by rw [fk_at ha hl]; exact decide_eq_true hx)
section CW
variable {A0 : xM} {L : xL} {P : Nat → Nat → Nat} {fl : Nat → Nat → Nat} {nf : Nat → Nat} {ac : Nat}
theorem c_write (hv0 : HV 0 A0 L P fl nf) (hac : A0 1 0 = nI ac) (hz0 : ∀ s, P s 0 = 0) (hlf : ∀ s u, pb s = 1 → 0 < P s u → u ≤ 100) : ∀ (k d set v depth : Nat) (T : List Nat) (A : xM) (post : xM → xL → Prop), pb set ≤ k → 1 ≤ set → set < 64 → k ≤ d → depth + k ≤ 7 → 1 ≤ v → v < 3001 → 0 < P set v → CT A0 A T → T.length + (6 * pb set - 3) ≤ 33 → (∀ A', CT A0 A' (T ++ wW2 P ac set v) → post A' L) → v_X5_writeFirstWayR d (nI set) (nI v) (nI depth) A L post := by
  intro k
  induction k with
  | zero => intro d set v depth T A post h1 h2 h3; have := pb_pos set h3 h2; omega
  | succ k ih =>
    intro d set v depth T A post h1 h2 h3 h4 h5 hv1 hv hP hT hTl kk
    have p1 := pb_pos set h3 h2
    obtain ⟨d, rfl⟩ : ∃ d', d = d' + 1 := ⟨d - 1, by omega⟩
    unfold v_X5_writeFirstWayR v_X5_writeFirstWay
    have hpb := pb_64 set h3
    refine pk_le depth 6 (fun _ => s_bc (by omega) ⟨fun c => ?_, fun c => ?_⟩) (fun c => absurd c (by omega))
    · have c : pb set ≠ 1 := fun e => c (by rw [e]; rfl)
      have vA : ∀ {A : xM} {T : List Nat}, CT A0 A T → HV 0 A L P fl nf ∧ A 1 0 = nI ac := fun h => ⟨hv0.mem (fun a b hab => h.2.2 a b (by omega) (by omega)) (fun _ _ _ => rfl), by rw [h.2.2 _ _ (by omega) (by omega)]; exact hac⟩
      refine pk_loop (σ := Unit) (fun f l _ => v_X5_writeFirstWay_25 (fun z2 z3 z4 A1 L1 post1 => v_X5_writeFirstWayR d z2 z3 z4 A1 L1 post1) (nI set) (nI v) (nI depth) post f (nI l) A L) (fun l _ => 1 ≤ l ∧ ∀ k, k < 4 * l → fk P ac set v k = false) set 1 () h2 ⟨Nat.le_refl _, fun k hk => by unfold fk; rw [decide_eq_false (by omega)]; rfl⟩ (fun f _ hI => ?_) (fun f l _ hl hI k2 => ?_)
      · unfold v_X5_writeFirstWay_25
        refine pk_le set set (fun _ => kk A ?_) (fun c => absurd c (by omega))
        rw [tx_none c (by
          have : fz P ac set v = 4 * set := ff_no hI.2
          omega), List.append_nil]
        exact hT
      · obtain ⟨hl1, hI⟩ := hI
        unfold v_X5_writeFirstWay_25
        refine pk_le set l (fun c => absurd c (by omega)) (fun _ => ?_)
        refine pk_loop (σ := Unit) (fun f' a _ => v_X5_writeFirstWay_34 (fun z2 z3 z4 A1 L1 post1 => v_X5_writeFirstWayR d z2 z3 z4 A1 L1 post1) (nI set) (nI v) (nI depth) (nI l) (fun x5 A L => v_X5_writeFirstWay_25 (fun z2 z3 z4 A1 L1 post1 => v_X5_writeFirstWayR d z2 z3 z4 A1 L1 post1) (nI set) (nI v) (nI depth) post f x5 A L) post f' (nI a) A L) (fun a _ => ∀ k, k < 4 * l + a → fk P ac set v k = false) 4 0 () (by omega) hI (fun f' _ hI => ?_) (fun f' a _ ha hI k3 => ?_)
        · unfold v_X5_writeFirstWay_34
          refine pk_le 4 4 (fun _ x5 e5 => ?_) (fun c => absurd c (by omega))
          have : x5 = nI (l + 1) := by rw [e5]; exact nI_1 l
          subst this
          exact k2 () ⟨by omega, hI⟩
        · unfold v_X5_writeFirstWay_34
          refine pk_le 4 a (fun c => absurd c (by omega)) (fun _ => c_left (vA hT).1 (vA hT).2 h3 hl1 hl ha hv1 hv ⟨fun c2 x6 e6 => ?_, fun c2 => ?_⟩)
          · have : x6 = nI (a + 1) := by rw [e6]; exact nI_1 a
            subst this
            have hx0 : fx P ac set v l a = 0 := by
              by_cases e : fx P ac set v l a = 0
              · exact e
              · rw [if_neg e] at c2
                have hp := (fx_pos e).2.1
                have := congrArg Int32.toInt c2
                rw [nI_toInt (by omega), show (-1 : Int32).toInt = -1 by decide] at this
                omega
            refine k3 () (fun k hk => ?_)
            by_cases e : k = 4 * l + a
            · rw [e, fk_at ha hl1, hx0]; rfl
            · exact hI k (by omega)
          · have hx0 : fx P ac set v l a ≠ 0 := fun e => c2 (by rw [if_pos e])
            rw [if_neg hx0]
            have ez := fz_yes ha hl1 hl hI hx0
            have lt : fz P ac set v < 4 * set := by omega
            have nd := tx_node h3 c lt
            have pt := fz_parts h3 lt hz0 hv
            dsimp only at pt
            have d1 : (4 * l + a) / 4 = l := by omega
            have d2 : (4 * l + a) % 4 = a := by omega
            rw [ez, d1, d2] at nd pt
            obtain ⟨q1, q2, q3, q4, q5, q6, q7, q8, q9, q10, q11, q12, q13, q14, q15⟩ := pt
            generalize hx9 : fx P ac set v l a = x at nd q7 q8 q9 q10 q11 q12
            have len1 := tx_len (ac := ac) hz0 6 l x (by have := pb_64 l (by omega); omega) q1 (by omega) q8
            have len2 := tx_len (ac := ac) hz0 6 (set ^^^ l) (oth a x v) (by have := pb_64 (set ^^^ l) (by omega); omega) q3 (by omega) q11
            refine c_add hT (by omega) (show 40 < 65536 by omega) (fun A1 t1 => ?_)
            rw [nI_1]
            refine ih d l x (depth + 1) (T ++ [40]) A1 _ (by omega) q1 (by omega) (by omega) (by omega) q7 q8 q9 t1 (by simp; omega) (fun A2 t2 => ⟨pk_in a 4 ha, ?_⟩)
            rw [xmc_mk ha]
            refine c_add t2 (by simp; omega) (mk_lt a) (fun A3 t3 => c_right ha q7 q8 hv1 hv (fun r _ hr => ?_))
            rw [hr q10, fb_xorI]
            refine ih d (set ^^^ l) (oth a x v) (depth + 1) _ A3 _ (by omega) q3 (by omega) (by omega) (by omega) q10 q11 q12 t3 (by simp; omega) (fun A4 t4 => ?_)
            refine c_add t4 (by simp; omega) (show 41 < 65536 by omega) (fun A5 t5 => kk A5 ?_)
            rw [nd]
            simp only [List.append_assoc, List.cons_append, List.nil_append] at t5 ⊢
            exact t5
    · have c : pb set = 1 := (nI_eq (a := pb set) (b := 1) (by omega) (by omega)).mp c
      rw [tx_leaf c] at kk
      rw [c] at hTl
      exact c_addNumber hT (by omega) hv1 (hlf set v c hP) (fun A' h => kk A' h)
theorem c_printWay {A : xM} (hv0 : HV 0 A L P fl nf) (hac : A 1 0 = nI ac) (hz0 : ∀ s, P s 0 = 0) (hlf : ∀ s u, pb s = 1 → 0 < P s u → u ≤ 100) {set v : Nat} (h1 : 1 ≤ set) (h2 : set < 64) (hv1 : 1 ≤ v) (hv : v < 3001) (hP : 0 < P set v) {post : Int32 → xM → xL → Prop} (k : ∀ A', CT A A' (wW2 P ac set v) → (wW2 P ac set v).length ≤ 33 → post (nI (wW2 P ac set v).length) A' L) : v_X5_printWay (nI set) (nI v) A L post := by
  unfold v_X5_printWay
  intro A1 e1
  have fr : ∀ a b, a ≠ 19 → ¬ (a = 18 ∧ b = 1) → A1 a b = A a b := fun a b _ h => by rw [e1]; unfold xu; rw [if_neg h]
  have hpb := pb_64 set h2
  have T0 : CT A A1 [] := ⟨by rw [e1]; simp [xu]; rfl, fun i hi => absurd hi (by simp), fr⟩
  have hlen := tx_len (ac := ac) hz0 6 set v (by omega) h1 h2 hv
  refine c_write hv0 hac hz0 hlf 6 8 set v 1 [] A1 _ (by omega) h1 h2 (by omega) (by omega) hv1 hv hP T0 (by simp; omega) (fun A2 t2 => ?_)
  rw [List.nil_append] at t2
  rw [t2.1]
  exact k A2 t2 (by omega)
end CW
