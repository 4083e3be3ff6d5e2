/-! ===== meets, meeting, spot: both sides ===== -/
theorem c_find {N n a b : Nat} {P : Nat → Nat → Int} {T : TxS} {H : HiS} {I : ImS} {E : SeS} {M : zMem} {Q : zMem → Prop} (hN : 300 ≤ N) (h : RC n P T H I E M) (ha : a < n) (hb : b < n) (hQ : ∀ M', fz 0 46 M M' → RC n P T H I E M' → FDx (P a) (P b) M' → Q M') : f_X3_find N (iI (a : Int)) (iI (b : Int)) M Q :=
  t_X3_find hN h.1.1 ha hb h.1.2.2.1 h.1.2.2.2.1 (fun M' f1 k1 c1 x1 => hQ M' (fz_wide f1 (by omega) (by omega)) (RC_c h f1 c1 (KV_e h.1.2.2.2.2 k1)) x1)
theorem FDx_over {N : Nat} {p q : Nat → Int} {M : zMem} {Q : Int32 → zMem → Prop} (h : FDx p q M) (hQ1 : 100 < (ML p q).length → Q (iI 1) M) (hQ0 : (ML p q).length ≤ 100 → (MC p q (ML p q) M ∧ M.1 38 6 = iI (((ML p q).countP (fun e => e.2.2) : Nat) : Int) ∧ SO (ML p q) (ML p q).length M ∧ TO p q (ML p q) (ML p q).length M) → Q (iI 0) M) : f_X3_isOver N M Q := by
  rcases h with h | h
  · exact t_X3_isOver h.2 (by decide) (by decide) (fun _ => hQ1 h.1) (fun w => by omega)
  · have hl := h.1.2.1
    exact t_X3_isOver h.1.1 (by omega) (by omega) (fun w => by omega) (fun _ => hQ0 hl h)
theorem cnS_cert (l : List Ev) : ∀ d, d ≤ l.length → cnS (fun a => (ev l a).2.2 = true) d = (l.take d).countP (fun e => e.2.2) := by
  intro d
  induction d with
  | zero => intro _; simp [cnS]
  | succ d ih =>
    intro hd
    have e : l.take (d + 1) = l.take d ++ [ev l d] := by
      rw [List.take_succ, ev_at (show d < l.length by omega)]
      rfl
    rw [e, List.countP_append, ← ih (by omega)]
    rcases Classical.em ((ev l d).2.2 = true) with q | q
    · rw [cnS_y q]; simp [q]
    · rw [cnS_n q]; simp [q]
noncomputable def meV (p q : Nat → Int) (z3 : Int) : Int := ifp (100 < (ML p q).length) (-4) (ifp (z3 = 0) ((ML p q).countP (fun e => e.2.2) : Nat) (ifp (z3 = 1) (((ML p q).length : Int) - ((ML p q).countP (fun e => e.2.2) : Nat)) (fc (ML p q) (ML p q).length : Int)))
noncomputable def vMeets (n : Nat) (P : Nat → Nat → Int) (z1 z2 z3 : Int) : Int := ifp (((0 ≤ z1 ∧ z1 < n) ∧ (0 ≤ z2 ∧ z2 < n) ∧ z1 ≠ z2) ∧ (0 ≤ z3 ∧ z3 < 3)) (meV (P z1.toNat) (P z2.toNat) z3) (-1)
theorem c_meets {N n : Nat} {P : Nat → Nat → Int} {T : TxS} {H : HiS} {I : ImS} {E : SeS} {z1 z2 z3 : Int} {M : zMem} {Q : Int32 → zMem → Prop} (hN : 300 ≤ N) (h : RC n P T H I E M) (h1 : -2147483648 ≤ z1 ∧ z1 < 2147483648) (h2 : -2147483648 ≤ z2 ∧ z2 < 2147483648) (h3 : -2147483648 ≤ z3 ∧ z3 < 2147483648) (hQ : ∀ M', fz 0 46 M M' → RC n P T H I E M' → Q (iI (vMeets n P z1 z2 z3)) M') : f_X7_meets N (iI z1) (iI z2) (iI z3) M Q := by
  unfold f_X7_meets
  unfold vMeets at hQ
  have hn := h.1.1
  refine t_X7_areTwoArcs h.1.1 h.1.2.1 h1.1 h1.2 h2.1 h2.2 (fun a b e1 l1 e2 l2 ne => ?_) (fun w => ?_)
  · refine ⟨fun e => absurd e (by decide), fun _ => ⟨fun c => ?_, fun c => ⟨fun c2 => ?_, fun c2 => ?_⟩⟩⟩
    · simp (disch := omega) only [iI_m1, iI_0, iI_1, iI_2, iI_3, iI_4, iI_5, iI_6, iI_7, iI_8, iI_9, iI_10, iI_11, iI_12, iI_13, iI_16, iI_18, iI_20, iI_24, iI_31, iI_32, iI_33, iI_36, iI_48, iI_57, iI_59, iI_63, iI_64, iI_97, iI_100, iI_101, iI_130, iI_255, iI_256, iI_512, iI_1000, iI_1009, iI_2000, iI_2048, iI_32768, iI_2147483647, iI_add, iI_sub, iI_mul, iI_neg, iI_lt, iI_le, iI_eq, iI_in] at c
      rw [ifp_f (by omega)] at hQ
      exact hQ M fz.rf h
    · simp (disch := omega) only [iI_m1, iI_0, iI_1, iI_2, iI_3, iI_4, iI_5, iI_6, iI_7, iI_8, iI_9, iI_10, iI_11, iI_12, iI_13, iI_16, iI_18, iI_20, iI_24, iI_31, iI_32, iI_33, iI_36, iI_48, iI_57, iI_59, iI_63, iI_64, iI_97, iI_100, iI_101, iI_130, iI_255, iI_256, iI_512, iI_1000, iI_1009, iI_2000, iI_2048, iI_32768, iI_2147483647, iI_add, iI_sub, iI_mul, iI_neg, iI_lt, iI_le, iI_eq, iI_in] at c c2
      rw [ifp_t (by omega)] at hQ
      subst e1; subst e2
      simp only [toN] at hQ
      unfold meV at hQ
      refine c_find hN h l1 l2 (fun M' f1 r1 x1 => ?_)
      have hQ' := hQ M' f1 r1
      refine FDx_over x1 (fun hl => ?_) (fun hl y => ?_)
      · rw [ifp_t hl] at hQ'
        exact ⟨fun e => absurd e (by decide), fun _ => hQ'⟩
      · rw [ifp_f (by omega)] at hQ'
        refine ⟨fun _ => ?_, fun e => absurd rfl e⟩
        rw [y.1.1, y.2.1, y.2.2.1.2, iI_sub]
        refine ⟨fun w => ?_, fun w => ?_, fun w w2 => ?_⟩
        · simp (disch := omega) only [iI_m1, iI_0, iI_1, iI_2, iI_3, iI_4, iI_5, iI_6, iI_7, iI_8, iI_9, iI_10, iI_11, iI_12, iI_13, iI_16, iI_18, iI_20, iI_24, iI_31, iI_32, iI_33, iI_36, iI_48, iI_57, iI_59, iI_63, iI_64, iI_97, iI_100, iI_101, iI_130, iI_255, iI_256, iI_512, iI_1000, iI_1009, iI_2000, iI_2048, iI_32768, iI_2147483647, iI_add, iI_sub, iI_mul, iI_neg, iI_lt, iI_le, iI_eq, iI_in] at w
          rw [ifp_t w] at hQ'
          exact hQ'
        · simp (disch := omega) only [iI_m1, iI_0, iI_1, iI_2, iI_3, iI_4, iI_5, iI_6, iI_7, iI_8, iI_9, iI_10, iI_11, iI_12, iI_13, iI_16, iI_18, iI_20, iI_24, iI_31, iI_32, iI_33, iI_36, iI_48, iI_57, iI_59, iI_63, iI_64, iI_97, iI_100, iI_101, iI_130, iI_255, iI_256, iI_512, iI_1000, iI_1009, iI_2000, iI_2048, iI_32768, iI_2147483647, iI_add, iI_sub, iI_mul, iI_neg, iI_lt, iI_le, iI_eq, iI_in] at w
          rw [ifp_f (by omega), ifp_t w] at hQ'
          exact hQ'
        · simp (disch := omega) only [iI_m1, iI_0, iI_1, iI_2, iI_3, iI_4, iI_5, iI_6, iI_7, iI_8, iI_9, iI_10, iI_11, iI_12, iI_13, iI_16, iI_18, iI_20, iI_24, iI_31, iI_32, iI_33, iI_36, iI_48, iI_57, iI_59, iI_63, iI_64, iI_97, iI_100, iI_101, iI_130, iI_255, iI_256, iI_512, iI_1000, iI_1009, iI_2000, iI_2048, iI_32768, iI_2147483647, iI_add, iI_sub, iI_mul, iI_neg, iI_lt, iI_le, iI_eq, iI_in] at w w2
          rw [ifp_f (by omega), ifp_f (by omega)] at hQ'
          exact hQ'
    · simp (disch := omega) only [iI_m1, iI_0, iI_1, iI_2, iI_3, iI_4, iI_5, iI_6, iI_7, iI_8, iI_9, iI_10, iI_11, iI_12, iI_13, iI_16, iI_18, iI_20, iI_24, iI_31, iI_32, iI_33, iI_36, iI_48, iI_57, iI_59, iI_63, iI_64, iI_97, iI_100, iI_101, iI_130, iI_255, iI_256, iI_512, iI_1000, iI_1009, iI_2000, iI_2048, iI_32768, iI_2147483647, iI_add, iI_sub, iI_mul, iI_neg, iI_lt, iI_le, iI_eq, iI_in] at c2
      rw [ifp_f (by omega)] at hQ
      exact hQ M fz.rf h
  · rw [ifp_f (by omega)] at hQ
    exact ⟨fun _ => hQ M fz.rf h, fun e => absurd rfl e⟩
theorem r_meet {N n a b : Nat} {P : Nat → Nat → Int} {T : TxS} {H : HiS} {I : ImS} {E : SeS} {M : zMem} {Q : Int32 → zMem → Prop} (hN : 10000 ≤ N) (h : RR n P T H I E M) (ha : a < n) (hb : b < n) (hQ0 : 100 < (ML (P a) (P b)).length → ∀ M', fz 47 62 M M' → RR n P T H I E M' → Q (iI 0) M') (hQ1 : (ML (P a) (P b)).length ≤ 100 → ∀ M', fz 47 62 M M' → RR n P T H I E M' → (∀ c, c < n → RLd (P c) c M') → MR3 (ML (P a) (P b)) M' → SPr (ML (P a) (P b)) M' → M'.1 47 24 = iI (fc (ML (P a) (P b)) (ML (P a) (P b)).length : Int) → Q (iI 1) M') : f_X8_meet N (iI (a : Int)) (iI (b : Int)) M Q := by
  refine t_X8_meet hN h.1 ha hb (fun hl M' f1 r1 => hQ0 hl M' (fz_rSet f1) (RR_r h f1 r1)) ?_
  intro M' sp f1 r1 hd m1 i1 s1 s2
  exact hQ1 m1.2.1 M' (fz_rSet f1) (RR_r h f1 r1) hd m1 (SPr_of i1 s1) s2
theorem r_meets {N n : Nat} {P : Nat → Nat → Int} {T : TxS} {H : HiS} {I : ImS} {E : SeS} {z1 z2 z3 : Int} {M : zMem} {Q : Int32 → zMem → Prop} (hN : 10000 ≤ N) (h : RR n P T H I E M) (h1 : -2147483648 ≤ z1 ∧ z1 < 2147483648) (h2 : -2147483648 ≤ z2 ∧ z2 < 2147483648) (h3 : -2147483648 ≤ z3 ∧ z3 < 2147483648) (hQ : ∀ M', fz 47 62 M M' → RR n P T H I E M' → Q (iI (vMeets n P z1 z2 z3)) M') : f_X8_meets N (iI z1) (iI z2) (iI z3) M Q := by
  unfold f_X8_meets
  unfold vMeets at hQ
  intro M1 e
  have f1 : fz 47 62 M M1 := by rw [e]; exact fz_0
  have r1 : RR n P T H I E M1 := by rw [e]; exact RR_0 h
  have hn := RR_n r1.1
  refine t_X8_arePair hn.1 hn.2 h1.1 h1.2 h2.1 h2.2 (fun a b e1 l1 e2 l2 ne => ?_) (fun w => ?_)
  · refine ⟨fun e => absurd e (by decide), fun _ => ?_⟩
    refine t_X8_upTo (h := 2) h3.1 h3.2 (by decide) (fun w e3 l3 => ?_) (fun w => ?_)
    · rw [ifp_t (by omega)] at hQ
      subst e1; subst e2
      simp only [toN] at hQ
      unfold meV at hQ
      refine ⟨fun _ => ?_, fun e => absurd e (by decide)⟩
      refine r_meet hN r1 l1 l2 (fun hl M' f2 r2 => ?_) (fun hl M' f2 r2 d2 m2 s2 t2 => ?_)
      · have hQ' := hQ M' (f1.tr f2) r2
        rw [ifp_t hl] at hQ'
        exact ⟨fun e => absurd rfl e, fun _ => hQ'⟩
      · have hQ' := hQ M' (f1.tr f2) r2
        rw [ifp_f (by omega)] at hQ'
        refine ⟨fun _ => ?_, fun e => absurd e (by decide)⟩
        have cc0 := cnS_cert (ML (P a) (P b)) (ML (P a) (P b)).length (Nat.le_refl _)
        rw [List.take_of_length_le (Nat.le_refl _)] at cc0
        have lp : ∀ (r f d : Nat), r + d = (ML (P a) (P b)).length → r + 1 ≤ f → f_X8_meets_l43 N (iI z3) Q f (iI (cnS (fun a' => (ev (ML (P a) (P b)) a').2.2 = true) d : Int)) (iI (d : Int)) M' := by
          intro r
          induction r with
          | zero =>
            intro f d hd hf
            obtain ⟨f, rfl⟩ : ∃ g, f = g + 1 := ⟨f - 1, by omega⟩
            show f_X8_meets_b43 N (f_X8_meets_l43 N (iI z3) Q f) (iI z3) _ (iI (d : Int)) M' Q
            unfold f_X8_meets_b43
            rw [m2.1, t2]
            obtain rfl : d = (ML (P a) (P b)).length := by omega
            rw [cc0]
            refine ⟨fun _ => ⟨fun w => ⟨fun w2 => ?_, fun w2 => ?_⟩, fun w => ?_⟩, fun cc => ?_⟩
            · simp (disch := omega) only [iI_m1, iI_0, iI_1, iI_2, iI_3, iI_4, iI_5, iI_6, iI_7, iI_8, iI_9, iI_10, iI_11, iI_12, iI_13, iI_16, iI_18, iI_20, iI_24, iI_31, iI_32, iI_33, iI_36, iI_48, iI_57, iI_59, iI_63, iI_64, iI_97, iI_100, iI_101, iI_130, iI_255, iI_256, iI_512, iI_1000, iI_1009, iI_2000, iI_2048, iI_32768, iI_2147483647, iI_add, iI_sub, iI_mul, iI_neg, iI_lt, iI_le, iI_eq, iI_in] at w w2
              rw [ifp_f (by omega), ifp_f (by omega)] at hQ'
              exact hQ'
            · simp (disch := omega) only [iI_m1, iI_0, iI_1, iI_2, iI_3, iI_4, iI_5, iI_6, iI_7, iI_8, iI_9, iI_10, iI_11, iI_12, iI_13, iI_16, iI_18, iI_20, iI_24, iI_31, iI_32, iI_33, iI_36, iI_48, iI_57, iI_59, iI_63, iI_64, iI_97, iI_100, iI_101, iI_130, iI_255, iI_256, iI_512, iI_1000, iI_1009, iI_2000, iI_2048, iI_32768, iI_2147483647, iI_add, iI_sub, iI_mul, iI_neg, iI_lt, iI_le, iI_eq, iI_in] at w w2
              rw [ifp_f (by omega), ifp_t w2] at hQ'
              rw [iI_sub]
              exact hQ'
            · simp (disch := omega) only [iI_m1, iI_0, iI_1, iI_2, iI_3, iI_4, iI_5, iI_6, iI_7, iI_8, iI_9, iI_10, iI_11, iI_12, iI_13, iI_16, iI_18, iI_20, iI_24, iI_31, iI_32, iI_33, iI_36, iI_48, iI_57, iI_59, iI_63, iI_64, iI_97, iI_100, iI_101, iI_130, iI_255, iI_256, iI_512, iI_1000, iI_1009, iI_2000, iI_2048, iI_32768, iI_2147483647, iI_add, iI_sub, iI_mul, iI_neg, iI_lt, iI_le, iI_eq, iI_in] at w
              rw [ifp_t w] at hQ'
              exact hQ'
            · simp (disch := omega) only [iI_m1, iI_0, iI_1, iI_2, iI_3, iI_4, iI_5, iI_6, iI_7, iI_8, iI_9, iI_10, iI_11, iI_12, iI_13, iI_16, iI_18, iI_20, iI_24, iI_31, iI_32, iI_33, iI_36, iI_48, iI_57, iI_59, iI_63, iI_64, iI_97, iI_100, iI_101, iI_130, iI_255, iI_256, iI_512, iI_1000, iI_1009, iI_2000, iI_2048, iI_32768, iI_2147483647, iI_add, iI_sub, iI_mul, iI_neg, iI_lt, iI_le, iI_eq, iI_in] at cc
              omega
          | succ r ih =>
            intro f d hd hf
            obtain ⟨f, rfl⟩ : ∃ g, f = g + 1 := ⟨f - 1, by omega⟩
            show f_X8_meets_b43 N (f_X8_meets_l43 N (iI z3) Q f) (iI z3) _ (iI (d : Int)) M' Q
            unfold f_X8_meets_b43
            have hdl : d < (ML (P a) (P b)).length := by omega
            rw [m2.1]
            refine ⟨fun cc => ?_, fun _ => ⟨iI_in0 (by omega) (by omega) (by decide), ?_⟩⟩
            · simp (disch := omega) only [iI_m1, iI_0, iI_1, iI_2, iI_3, iI_4, iI_5, iI_6, iI_7, iI_8, iI_9, iI_10, iI_11, iI_12, iI_13, iI_16, iI_18, iI_20, iI_24, iI_31, iI_32, iI_33, iI_36, iI_48, iI_57, iI_59, iI_63, iI_64, iI_97, iI_100, iI_101, iI_130, iI_255, iI_256, iI_512, iI_1000, iI_1009, iI_2000, iI_2048, iI_32768, iI_2147483647, iI_add, iI_sub, iI_mul, iI_neg, iI_lt, iI_le, iI_eq, iI_in] at cc
              omega
            · rw [zrd_iI (by omega) (by omega), toN, (MR3_ev m2 hdl).2.2, bI_0]
              have b69 : ∀ s : Int, (cnS (fun a' => (ev (ML (P a) (P b)) a').2.2 = true) d : Int) + s = (cnS (fun a' => (ev (ML (P a) (P b)) a').2.2 = true) (d + 1) : Int) → f_X8_meets_b69 N (f_X8_meets_l43 N (iI z3) Q f) (iI z3) (iI (d : Int)) (iI (cnS (fun a' => (ev (ML (P a) (P b)) a').2.2 = true) d : Int)) (iI s) M' Q := by
                intro s hs
                unfold f_X8_meets_b69
                intro v e v' e'
                rw [iI_add, hs] at e
                simp (disch := omega) only [iI_m1, iI_0, iI_1, iI_2, iI_3, iI_4, iI_5, iI_6, iI_7, iI_8, iI_9, iI_10, iI_11, iI_12, iI_13, iI_16, iI_18, iI_20, iI_24, iI_31, iI_32, iI_33, iI_36, iI_48, iI_57, iI_59, iI_63, iI_64, iI_97, iI_100, iI_101, iI_130, iI_255, iI_256, iI_512, iI_1000, iI_1009, iI_2000, iI_2048, iI_32768, iI_2147483647, iI_add, iI_sub, iI_mul, iI_neg, iI_lt, iI_le, iI_eq, iI_in] at e'
                subst e; subst e'
                exact ih f (d + 1) (by omega) (by omega)
              refine ⟨fun w => b69 0 ?_, fun w => b69 1 ?_⟩
              · rw [cnS_n (S := fun a' => (ev (ML (P a) (P b)) a').2.2 = true) (fun w2 => by rw [w] at w2; exact absurd w2 (by decide)), Int.add_zero]
              · rw [cnS_y (S := fun a' => (ev (ML (P a) (P b)) a').2.2 = true) (by
                  cases hb : (ev (ML (P a) (P b)) d).2.2
                  · exact absurd hb w
                  · rfl)]
                rfl
        exact lp (ML (P a) (P b)).length N 0 (by omega) (by omega)
    · rw [ifp_f (by omega)] at hQ
      exact ⟨fun e => absurd rfl e, fun _ => hQ M1 f1 r1⟩
  · rw [ifp_f (by omega)] at hQ
    exact ⟨fun _ => hQ M1 f1 r1, fun e => absurd rfl e⟩
noncomputable def mgV (p q : Nat → Int) (z3 z4 : Int) : Int := ifp (100 < (ML p q).length) (-4) (ifp (z3 < (ML p q).length) (ifp (z4 = 0) ((ev (ML p q) z3.toNat).1 : Int) (ifp (z4 = 1) ((ev (ML p q) z3.toNat).2.1 : Int) (fc (ML p q) (rep (ML p q) z3.toNat) : Int))) (-9))
noncomputable def vMeeting (n : Nat) (P : Nat → Nat → Int) (z1 z2 z3 z4 : Int) : Int := ifp (((0 ≤ z1 ∧ z1 < n) ∧ (0 ≤ z2 ∧ z2 < n) ∧ z1 ≠ z2) ∧ 0 ≤ z3 ∧ (0 ≤ z4 ∧ z4 < 3)) (mgV (P z1.toNat) (P z2.toNat) z3 z4) (-1)
theorem c_meeting {N n : Nat} {P : Nat → Nat → Int} {T : TxS} {H : HiS} {I : ImS} {E : SeS} {z1 z2 z3 z4 : Int} {M : zMem} {Q : Int32 → zMem → Prop} (hN : 300 ≤ N) (h : RC n P T H I E M) (h1 : -2147483648 ≤ z1 ∧ z1 < 2147483648) (h2 : -2147483648 ≤ z2 ∧ z2 < 2147483648) (h3 : -2147483648 ≤ z3 ∧ z3 < 2147483648) (h4 : -2147483648 ≤ z4 ∧ z4 < 2147483648) (hQ : ∀ M', fz 0 46 M M' → RC n P T H I E M' → Q (iI (vMeeting n P z1 z2 z3 z4)) M') : f_X7_meeting N (iI z1) (iI z2) (iI z3) (iI z4) M Q := by
  unfold f_X7_meeting
  unfold vMeeting at hQ
  have hn := h.1.1
  refine t_X7_areTwoArcs h.1.1 h.1.2.1 h1.1 h1.2 h2.1 h2.2 (fun a b e1 l1 e2 l2 ne => ?_) (fun w => ?_)
  · refine ⟨fun e => absurd e (by decide), fun _ => ⟨fun c => ?_, fun c => ⟨fun c1 => ?_, fun c1 => ⟨fun c2 => ?_, fun c2 => ?_⟩⟩⟩⟩
    · simp (disch := omega) only [iI_m1, iI_0, iI_1, iI_2, iI_3, iI_4, iI_5, iI_6, iI_7, iI_8, iI_9, iI_10, iI_11, iI_12, iI_13, iI_16, iI_18, iI_20, iI_24, iI_31, iI_32, iI_33, iI_36, iI_48, iI_57, iI_59, iI_63, iI_64, iI_97, iI_100, iI_101, iI_130, iI_255, iI_256, iI_512, iI_1000, iI_1009, iI_2000, iI_2048, iI_32768, iI_2147483647, iI_add, iI_sub, iI_mul, iI_neg, iI_lt, iI_le, iI_eq, iI_in] at c
      rw [ifp_f (by omega)] at hQ
      exact hQ M fz.rf h
    · simp (disch := omega) only [iI_m1, iI_0, iI_1, iI_2, iI_3, iI_4, iI_5, iI_6, iI_7, iI_8, iI_9, iI_10, iI_11, iI_12, iI_13, iI_16, iI_18, iI_20, iI_24, iI_31, iI_32, iI_33, iI_36, iI_48, iI_57, iI_59, iI_63, iI_64, iI_97, iI_100, iI_101, iI_130, iI_255, iI_256, iI_512, iI_1000, iI_1009, iI_2000, iI_2048, iI_32768, iI_2147483647, iI_add, iI_sub, iI_mul, iI_neg, iI_lt, iI_le, iI_eq, iI_in] at c1
      rw [ifp_f (by omega)] at hQ
      exact hQ M fz.rf h
    · simp (disch := omega) only [iI_m1, iI_0, iI_1, iI_2, iI_3, iI_4, iI_5, iI_6, iI_7, iI_8, iI_9, iI_10, iI_11, iI_12, iI_13, iI_16, iI_18, iI_20, iI_24, iI_31, iI_32, iI_33, iI_36, iI_48, iI_57, iI_59, iI_63, iI_64, iI_97, iI_100, iI_101, iI_130, iI_255, iI_256, iI_512, iI_1000, iI_1009, iI_2000, iI_2048, iI_32768, iI_2147483647, iI_add, iI_sub, iI_mul, iI_neg, iI_lt, iI_le, iI_eq, iI_in] at c c1 c2
      rw [ifp_t (by omega)] at hQ
      subst e1; subst e2
      simp only [toN] at hQ
      unfold mgV at hQ
      refine c_find hN h l1 l2 (fun M' f1 r1 x1 => ?_)
      have hQ' := hQ M' f1 r1
      refine FDx_over x1 (fun hl => ?_) (fun hl y => ?_)
      · rw [ifp_t hl] at hQ'
        exact ⟨fun e => absurd e (by decide), fun _ => hQ'⟩
      · rw [ifp_f (by omega)] at hQ'
        refine ⟨fun _ => ?_, fun e => absurd rfl e⟩
        rw [y.1.1]
        refine ⟨fun w => ?_, fun w => ?_⟩
        · simp (disch := omega) only [iI_m1, iI_0, iI_1, iI_2, iI_3, iI_4, iI_5, iI_6, iI_7, iI_8, iI_9, iI_10, iI_11, iI_12, iI_13, iI_16, iI_18, iI_20, iI_24, iI_31, iI_32, iI_33, iI_36, iI_48, iI_57, iI_59, iI_63, iI_64, iI_97, iI_100, iI_101, iI_130, iI_255, iI_256, iI_512, iI_1000, iI_1009, iI_2000, iI_2048, iI_32768, iI_2147483647, iI_add, iI_sub, iI_mul, iI_neg, iI_lt, iI_le, iI_eq, iI_in] at w
          rw [ifp_t w] at hQ'
          obtain ⟨k, rfl⟩ : ∃ k : Nat, z3 = (k : Int) := ⟨z3.toNat, by omega⟩
          have hkl : k < (ML (P a) (P b)).length := by omega
          rw [toN] at hQ'
          have vk : vp_in (iI (k : Int)) 101 := iI_in0 (by omega) (by omega) (by decide)
          have rr : ∀ c, zrd M' c (iI (k : Int)) = M'.1 c k := fun c => by rw [zrd_iI (by omega) (by omega), toN]
          rw [rr, rr, rr, (y.1.2.2 k hkl).1, (y.1.2.2 k hkl).2.1, y.2.2.1.1 k hkl, ifp_t (show rep (ML (P a) (P b)) k < (ML (P a) (P b)).length by have := (rep_ok hkl).1; omega)]
          refine ⟨fun w => ⟨vk, ?_⟩, fun w => ⟨vk, ?_⟩, fun w w2 => ⟨vk, ?_⟩⟩
          · simp (disch := omega) only [iI_m1, iI_0, iI_1, iI_2, iI_3, iI_4, iI_5, iI_6, iI_7, iI_8, iI_9, iI_10, iI_11, iI_12, iI_13, iI_16, iI_18, iI_20, iI_24, iI_31, iI_32, iI_33, iI_36, iI_48, iI_57, iI_59, iI_63, iI_64, iI_97, iI_100, iI_101, iI_130, iI_255, iI_256, iI_512, iI_1000, iI_1009, iI_2000, iI_2048, iI_32768, iI_2147483647, iI_add, iI_sub, iI_mul, iI_neg, iI_lt, iI_le, iI_eq, iI_in] at w
            rw [ifp_t w] at hQ'
            exact hQ'
          · simp (disch := omega) only [iI_m1, iI_0, iI_1, iI_2, iI_3, iI_4, iI_5, iI_6, iI_7, iI_8, iI_9, iI_10, iI_11, iI_12, iI_13, iI_16, iI_18, iI_20, iI_24, iI_31, iI_32, iI_33, iI_36, iI_48, iI_57, iI_59, iI_63, iI_64, iI_97, iI_100, iI_101, iI_130, iI_255, iI_256, iI_512, iI_1000, iI_1009, iI_2000, iI_2048, iI_32768, iI_2147483647, iI_add, iI_sub, iI_mul, iI_neg, iI_lt, iI_le, iI_eq, iI_in] at w
            rw [ifp_f (by omega), ifp_t w] at hQ'
            exact hQ'
          · simp (disch := omega) only [iI_m1, iI_0, iI_1, iI_2, iI_3, iI_4, iI_5, iI_6, iI_7, iI_8, iI_9, iI_10, iI_11, iI_12, iI_13, iI_16, iI_18, iI_20, iI_24, iI_31, iI_32, iI_33, iI_36, iI_48, iI_57, iI_59, iI_63, iI_64, iI_97, iI_100, iI_101, iI_130, iI_255, iI_256, iI_512, iI_1000, iI_1009, iI_2000, iI_2048, iI_32768, iI_2147483647, iI_add, iI_sub, iI_mul, iI_neg, iI_lt, iI_le, iI_eq, iI_in] at w w2
            rw [ifp_f (by omega), ifp_f (by omega)] at hQ'
            exact hQ'
        · simp (disch := omega) only [iI_m1, iI_0, iI_1, iI_2, iI_3, iI_4, iI_5, iI_6, iI_7, iI_8, iI_9, iI_10, iI_11, iI_12, iI_13, iI_16, iI_18, iI_20, iI_24, iI_31, iI_32, iI_33, iI_36, iI_48, iI_57, iI_59, iI_63, iI_64, iI_97, iI_100, iI_101, iI_130, iI_255, iI_256, iI_512, iI_1000, iI_1009, iI_2000, iI_2048, iI_32768, iI_2147483647, iI_add, iI_sub, iI_mul, iI_neg, iI_lt, iI_le, iI_eq, iI_in] at w
          rw [ifp_f w] at hQ'
          exact hQ'
    · simp (disch := omega) only [iI_m1, iI_0, iI_1, iI_2, iI_3, iI_4, iI_5, iI_6, iI_7, iI_8, iI_9, iI_10, iI_11, iI_12, iI_13, iI_16, iI_18, iI_20, iI_24, iI_31, iI_32, iI_33, iI_36, iI_48, iI_57, iI_59, iI_63, iI_64, iI_97, iI_100, iI_101, iI_130, iI_255, iI_256, iI_512, iI_1000, iI_1009, iI_2000, iI_2048, iI_32768, iI_2147483647, iI_add, iI_sub, iI_mul, iI_neg, iI_lt, iI_le, iI_eq, iI_in] at c2
      rw [ifp_f (by omega)] at hQ
      exact hQ M fz.rf h
  · rw [ifp_f (by omega)] at hQ
    exact ⟨fun _ => hQ M fz.rf h, fun e => absurd rfl e⟩
theorem r_meeting {N n : Nat} {P : Nat → Nat → Int} {T : TxS} {H : HiS} {I : ImS} {E : SeS} {z1 z2 z3 z4 : Int} {M : zMem} {Q : Int32 → zMem → Prop} (hN : 10000 ≤ N) (h : RR n P T H I E M) (h1 : -2147483648 ≤ z1 ∧ z1 < 2147483648) (h2 : -2147483648 ≤ z2 ∧ z2 < 2147483648) (h3 : -2147483648 ≤ z3 ∧ z3 < 2147483648) (h4 : -2147483648 ≤ z4 ∧ z4 < 2147483648) (hQ : ∀ M', fz 47 62 M M' → RR n P T H I E M' → Q (iI (vMeeting n P z1 z2 z3 z4)) M') : f_X8_meeting N (iI z1) (iI z2) (iI z3) (iI z4) M Q := by
  unfold f_X8_meeting
  unfold vMeeting at hQ
  intro M1 e
  have f1 : fz 47 62 M M1 := by rw [e]; exact fz_0
  have r1 : RR n P T H I E M1 := by rw [e]; exact RR_0 h
  have hn := RR_n r1.1
  refine t_X8_arePair hn.1 hn.2 h1.1 h1.2 h2.1 h2.2 (fun a b e1 l1 e2 l2 ne => ?_) (fun w => ?_)
  · refine ⟨fun e => absurd e (by decide), fun _ => ⟨fun c => ?_, fun c => ?_⟩⟩
    · simp (disch := omega) only [iI_m1, iI_0, iI_1, iI_2, iI_3, iI_4, iI_5, iI_6, iI_7, iI_8, iI_9, iI_10, iI_11, iI_12, iI_13, iI_16, iI_18, iI_20, iI_24, iI_31, iI_32, iI_33, iI_36, iI_48, iI_57, iI_59, iI_63, iI_64, iI_97, iI_100, iI_101, iI_130, iI_255, iI_256, iI_512, iI_1000, iI_1009, iI_2000, iI_2048, iI_32768, iI_2147483647, iI_add, iI_sub, iI_mul, iI_neg, iI_lt, iI_le, iI_eq, iI_in] at c
      rw [ifp_f (by omega)] at hQ
      exact hQ M1 f1 r1
    · simp (disch := omega) only [iI_m1, iI_0, iI_1, iI_2, iI_3, iI_4, iI_5, iI_6, iI_7, iI_8, iI_9, iI_10, iI_11, iI_12, iI_13, iI_16, iI_18, iI_20, iI_24, iI_31, iI_32, iI_33, iI_36, iI_48, iI_57, iI_59, iI_63, iI_64, iI_97, iI_100, iI_101, iI_130, iI_255, iI_256, iI_512, iI_1000, iI_1009, iI_2000, iI_2048, iI_32768, iI_2147483647, iI_add, iI_sub, iI_mul, iI_neg, iI_lt, iI_le, iI_eq, iI_in] at c
      refine t_X8_upTo (h := 2) h4.1 h4.2 (by decide) (fun w e4 l4 => ?_) (fun w => ?_)
      · rw [ifp_t (by omega)] at hQ
        subst e1; subst e2
        simp only [toN] at hQ
        unfold mgV at hQ
        refine ⟨fun _ => ?_, fun e => absurd e (by decide)⟩
        refine r_meet hN r1 l1 l2 (fun hl M' f2 r2 => ?_) (fun hl M' f2 r2 d2 m2 s2 t2 => ?_)
        · have hQ' := hQ M' (f1.tr f2) r2
          rw [ifp_t hl] at hQ'
          exact ⟨fun e => absurd rfl e, fun _ => hQ'⟩
        · have hQ' := hQ M' (f1.tr f2) r2
          rw [ifp_f (by omega)] at hQ'
          refine ⟨fun _ => ?_, fun e => absurd e (by decide)⟩
          rw [m2.1]
          refine ⟨fun w => ?_, fun w => ?_⟩
          · simp (disch := omega) only [iI_m1, iI_0, iI_1, iI_2, iI_3, iI_4, iI_5, iI_6, iI_7, iI_8, iI_9, iI_10, iI_11, iI_12, iI_13, iI_16, iI_18, iI_20, iI_24, iI_31, iI_32, iI_33, iI_36, iI_48, iI_57, iI_59, iI_63, iI_64, iI_97, iI_100, iI_101, iI_130, iI_255, iI_256, iI_512, iI_1000, iI_1009, iI_2000, iI_2048, iI_32768, iI_2147483647, iI_add, iI_sub, iI_mul, iI_neg, iI_lt, iI_le, iI_eq, iI_in] at w
            rw [ifp_t w] at hQ'
            obtain ⟨k, rfl⟩ : ∃ k : Nat, z3 = (k : Int) := ⟨z3.toNat, by omega⟩
            have hkl : k < (ML (P a) (P b)).length := by omega
            rw [toN] at hQ'
            have vk : vp_in (iI (k : Int)) 100 := iI_in0 (by omega) (by omega) (by decide)
            have rr : ∀ c, zrd M' c (iI (k : Int)) = M'.1 c k := fun c => by rw [zrd_iI (by omega) (by omega), toN]
            rw [rr, rr, rr, (MR3_ev m2 hkl).1, (MR3_ev m2 hkl).2.1, s2 k hkl]
            refine ⟨fun w => ⟨fun w2 => ⟨vk, ?_⟩, fun w2 => ⟨vk, ?_⟩⟩, fun w => ⟨vk, ?_⟩⟩
            · simp (disch := omega) only [iI_m1, iI_0, iI_1, iI_2, iI_3, iI_4, iI_5, iI_6, iI_7, iI_8, iI_9, iI_10, iI_11, iI_12, iI_13, iI_16, iI_18, iI_20, iI_24, iI_31, iI_32, iI_33, iI_36, iI_48, iI_57, iI_59, iI_63, iI_64, iI_97, iI_100, iI_101, iI_130, iI_255, iI_256, iI_512, iI_1000, iI_1009, iI_2000, iI_2048, iI_32768, iI_2147483647, iI_add, iI_sub, iI_mul, iI_neg, iI_lt, iI_le, iI_eq, iI_in] at w w2
              rw [ifp_f (by omega), ifp_f (by omega)] at hQ'
              exact hQ'
            · simp (disch := omega) only [iI_m1, iI_0, iI_1, iI_2, iI_3, iI_4, iI_5, iI_6, iI_7, iI_8, iI_9, iI_10, iI_11, iI_12, iI_13, iI_16, iI_18, iI_20, iI_24, iI_31, iI_32, iI_33, iI_36, iI_48, iI_57, iI_59, iI_63, iI_64, iI_97, iI_100, iI_101, iI_130, iI_255, iI_256, iI_512, iI_1000, iI_1009, iI_2000, iI_2048, iI_32768, iI_2147483647, iI_add, iI_sub, iI_mul, iI_neg, iI_lt, iI_le, iI_eq, iI_in] at w w2
              rw [ifp_f (by omega), ifp_t w2] at hQ'
              exact hQ'
            · simp (disch := omega) only [iI_m1, iI_0, iI_1, iI_2, iI_3, iI_4, iI_5, iI_6, iI_7, iI_8, iI_9, iI_10, iI_11, iI_12, iI_13, iI_16, iI_18, iI_20, iI_24, iI_31, iI_32, iI_33, iI_36, iI_48, iI_57, iI_59, iI_63, iI_64, iI_97, iI_100, iI_101, iI_130, iI_255, iI_256, iI_512, iI_1000, iI_1009, iI_2000, iI_2048, iI_32768, iI_2147483647, iI_add, iI_sub, iI_mul, iI_neg, iI_lt, iI_le, iI_eq, iI_in] at w
              rw [ifp_t w] at hQ'
              exact hQ'
          · simp (disch := omega) only [iI_m1, iI_0, iI_1, iI_2, iI_3, iI_4, iI_5, iI_6, iI_7, iI_8, iI_9, iI_10, iI_11, iI_12, iI_13, iI_16, iI_18, iI_20, iI_24, iI_31, iI_32, iI_33, iI_36, iI_48, iI_57, iI_59, iI_63, iI_64, iI_97, iI_100, iI_101, iI_130, iI_255, iI_256, iI_512, iI_1000, iI_1009, iI_2000, iI_2048, iI_32768, iI_2147483647, iI_add, iI_sub, iI_mul, iI_neg, iI_lt, iI_le, iI_eq, iI_in] at w
            rw [ifp_f w] at hQ'
            exact hQ'
      · rw [ifp_f (by omega)] at hQ
        exact ⟨fun e => absurd rfl e, fun _ => hQ M1 f1 r1⟩
  · rw [ifp_f (by omega)] at hQ
    exact ⟨fun _ => hQ M1 f1 r1, fun e => absurd rfl e⟩
/-- what spot answers: v -/
def spV (p q : Nat → Int) (z3 z4 v : Int) : Prop := (100 < (ML p q).length ∧ v = -4) ∨ ((ML p q).length ≤ 100 ∧ ((fc (ML p q) (ML p q).length : Int) ≤ z3 ∧ v = -9 ∨ z3 < (fc (ML p q) (ML p q).length : Int) ∧ Tl p q (ML p q) (Sk (ML p q) z3.toNat) z4.toNat v))
def vSpot (n : Nat) (P : Nat → Nat → Int) (z1 z2 z3 z4 v : Int) : Prop := (((((0 ≤ z1 ∧ z1 < n) ∧ (0 ≤ z2 ∧ z2 < n) ∧ z1 ≠ z2) ∧ 0 ≤ z3 ∧ (0 ≤ z4 ∧ z4 < 6))) ∧ spV (P z1.toNat) (P z2.toNat) z3 z4 v) ∨ (¬ ((((0 ≤ z1 ∧ z1 < n) ∧ (0 ≤ z2 ∧ z2 < n) ∧ z1 ≠ z2) ∧ 0 ≤ z3 ∧ (0 ≤ z4 ∧ z4 < 6))) ∧ v = -1)
theorem vSpot_un {n : Nat} {P : Nat → Nat → Int} {z1 z2 z3 z4 v w : Int} (h : vSpot n P z1 z2 z3 z4 v) (h' : vSpot n P z1 z2 z3 z4 w) : v = w := by
  rcases h with ⟨a1, a2⟩ | ⟨a1, a2⟩ <;> rcases h' with ⟨b1, b2⟩ | ⟨b1, b2⟩
  · rcases a2 with a2 | ⟨a2, a3⟩ <;> rcases b2 with b2 | ⟨b2, b3⟩
    · omega
    · omega
    · omega
    · rcases a3 with a3 | a3 <;> rcases b3 with b3 | b3
      · omega
      · omega
      · omega
      · exact Tl_un (by omega) a3.2 b3.2
  · exact absurd a1 b1
  · exact absurd b1 a1
  · omega
theorem c_spot {N n : Nat} {P : Nat → Nat → Int} {T : TxS} {H : HiS} {I : ImS} {E : SeS} {z1 z2 z3 z4 : Int} {M : zMem} {Q : Int32 → zMem → Prop} (hN : 300 ≤ N) (h : RC n P T H I E M) (h1 : -2147483648 ≤ z1 ∧ z1 < 2147483648) (h2 : -2147483648 ≤ z2 ∧ z2 < 2147483648) (h3 : -2147483648 ≤ z3 ∧ z3 < 2147483648) (h4 : -2147483648 ≤ z4 ∧ z4 < 2147483648) (hQ : ∀ M' v, fz 0 46 M M' → RC n P T H I E M' → vSpot n P z1 z2 z3 z4 v → Q (iI v) M') : f_X7_spot N (iI z1) (iI z2) (iI z3) (iI z4) M Q := by
  unfold f_X7_spot
  have hn := h.1.1
  refine t_X7_areTwoArcs h.1.1 h.1.2.1 h1.1 h1.2 h2.1 h2.2 (fun a b e1 l1 e2 l2 ne => ?_) (fun w => ?_)
  · refine ⟨fun e => absurd e (by decide), fun _ => ⟨fun c => ?_, fun c => ⟨fun c1 => ?_, fun c1 => ⟨fun c2 => ?_, fun c2 => ?_⟩⟩⟩⟩
    · simp (disch := omega) only [iI_m1, iI_0, iI_1, iI_2, iI_3, iI_4, iI_5, iI_6, iI_7, iI_8, iI_9, iI_10, iI_11, iI_12, iI_13, iI_16, iI_18, iI_20, iI_24, iI_31, iI_32, iI_33, iI_36, iI_48, iI_57, iI_59, iI_63, iI_64, iI_97, iI_100, iI_101, iI_130, iI_255, iI_256, iI_512, iI_1000, iI_1009, iI_2000, iI_2048, iI_32768, iI_2147483647, iI_add, iI_sub, iI_mul, iI_neg, iI_lt, iI_le, iI_eq, iI_in] at c
      exact hQ M (-1) fz.rf h (Or.inr ⟨by omega, rfl⟩)
    · simp (disch := omega) only [iI_m1, iI_0, iI_1, iI_2, iI_3, iI_4, iI_5, iI_6, iI_7, iI_8, iI_9, iI_10, iI_11, iI_12, iI_13, iI_16, iI_18, iI_20, iI_24, iI_31, iI_32, iI_33, iI_36, iI_48, iI_57, iI_59, iI_63, iI_64, iI_97, iI_100, iI_101, iI_130, iI_255, iI_256, iI_512, iI_1000, iI_1009, iI_2000, iI_2048, iI_32768, iI_2147483647, iI_add, iI_sub, iI_mul, iI_neg, iI_lt, iI_le, iI_eq, iI_in] at c1
      exact hQ M (-1) fz.rf h (Or.inr ⟨by omega, rfl⟩)
    · simp (disch := omega) only [iI_m1, iI_0, iI_1, iI_2, iI_3, iI_4, iI_5, iI_6, iI_7, iI_8, iI_9, iI_10, iI_11, iI_12, iI_13, iI_16, iI_18, iI_20, iI_24, iI_31, iI_32, iI_33, iI_36, iI_48, iI_57, iI_59, iI_63, iI_64, iI_97, iI_100, iI_101, iI_130, iI_255, iI_256, iI_512, iI_1000, iI_1009, iI_2000, iI_2048, iI_32768, iI_2147483647, iI_add, iI_sub, iI_mul, iI_neg, iI_lt, iI_le, iI_eq, iI_in] at c c1 c2
      have hv : (((0 ≤ z1 ∧ z1 < n) ∧ (0 ≤ z2 ∧ z2 < n) ∧ z1 ≠ z2) ∧ 0 ≤ z3 ∧ (0 ≤ z4 ∧ z4 < 6)) := by omega
      subst e1; subst e2
      refine c_find hN h l1 l2 (fun M' f1 r1 x1 => ?_)
      have hQ' : ∀ v, spV (P a) (P b) z3 z4 v → Q (iI v) M' := fun v hs => hQ M' v f1 r1 (Or.inl ⟨hv, by rw [toN, toN]; exact hs⟩)
      refine FDx_over x1 (fun hl => ?_) (fun hl y => ?_)
      · exact ⟨fun e => absurd e (by decide), fun _ => hQ' (-4) (Or.inl ⟨hl, rfl⟩)⟩
      · refine ⟨fun _ => ?_, fun e => absurd rfl e⟩
        have hfl := fc_le (ML (P a) (P b)) (ML (P a) (P b)).length
        rw [y.2.2.1.2]
        refine ⟨fun w => ?_, fun w => ?_⟩
        · simp (disch := omega) only [iI_m1, iI_0, iI_1, iI_2, iI_3, iI_4, iI_5, iI_6, iI_7, iI_8, iI_9, iI_10, iI_11, iI_12, iI_13, iI_16, iI_18, iI_20, iI_24, iI_31, iI_32, iI_33, iI_36, iI_48, iI_57, iI_59, iI_63, iI_64, iI_97, iI_100, iI_101, iI_130, iI_255, iI_256, iI_512, iI_1000, iI_1009, iI_2000, iI_2048, iI_32768, iI_2147483647, iI_add, iI_sub, iI_mul, iI_neg, iI_lt, iI_le, iI_eq, iI_in] at w
          obtain ⟨k, rfl⟩ : ∃ k : Nat, z3 = (k : Int) := ⟨z3.toNat, by omega⟩
          obtain ⟨u, rfl⟩ : ∃ k : Nat, z4 = (k : Int) := ⟨z4.toNat, by omega⟩
          unfold f_X3_tellSpot
          have e6 : iI (k : Int) * (6 : Int32) + iI (u : Int) = iI ((6 * k + u : Nat) : Int) := by rw [iI_6, iI_mul, iI_add]; congr 1 <;> omega
          rw [e6]
          refine ⟨iI_in0 (by omega) (by omega) (by decide), ?_⟩
          obtain ⟨v, v1, v2⟩ := y.2.2.2 k (by omega) u (by omega)
          rw [zrd_iI (by omega) (by omega), toN, v1]
          exact hQ' v (Or.inr ⟨hl, Or.inr ⟨w, by rw [toN, toN]; exact v2⟩⟩)
        · simp (disch := omega) only [iI_m1, iI_0, iI_1, iI_2, iI_3, iI_4, iI_5, iI_6, iI_7, iI_8, iI_9, iI_10, iI_11, iI_12, iI_13, iI_16, iI_18, iI_20, iI_24, iI_31, iI_32, iI_33, iI_36, iI_48, iI_57, iI_59, iI_63, iI_64, iI_97, iI_100, iI_101, iI_130, iI_255, iI_256, iI_512, iI_1000, iI_1009, iI_2000, iI_2048, iI_32768, iI_2147483647, iI_add, iI_sub, iI_mul, iI_neg, iI_lt, iI_le, iI_eq, iI_in] at w
          exact hQ' (-9) (Or.inr ⟨hl, Or.inl ⟨by omega, rfl⟩⟩)
    · simp (disch := omega) only [iI_m1, iI_0, iI_1, iI_2, iI_3, iI_4, iI_5, iI_6, iI_7, iI_8, iI_9, iI_10, iI_11, iI_12, iI_13, iI_16, iI_18, iI_20, iI_24, iI_31, iI_32, iI_33, iI_36, iI_48, iI_57, iI_59, iI_63, iI_64, iI_97, iI_100, iI_101, iI_130, iI_255, iI_256, iI_512, iI_1000, iI_1009, iI_2000, iI_2048, iI_32768, iI_2147483647, iI_add, iI_sub, iI_mul, iI_neg, iI_lt, iI_le, iI_eq, iI_in] at c2
      exact hQ M (-1) fz.rf h (Or.inr ⟨by omega, rfl⟩)
  · exact ⟨fun _ => hQ M (-1) fz.rf h (Or.inr ⟨by omega, rfl⟩), fun e => absurd rfl e⟩
theorem r_spot {N n : Nat} {P : Nat → Nat → Int} {T : TxS} {H : HiS} {I : ImS} {E : SeS} {z1 z2 z3 z4 : Int} {M : zMem} {Q : Int32 → zMem → Prop} (hN : 10000 ≤ N) (h : RR n P T H I E M) (h1 : -2147483648 ≤ z1 ∧ z1 < 2147483648) (h2 : -2147483648 ≤ z2 ∧ z2 < 2147483648) (h3 : -2147483648 ≤ z3 ∧ z3 < 2147483648) (h4 : -2147483648 ≤ z4 ∧ z4 < 2147483648) (hQ : ∀ M' v, fz 47 62 M M' → RR n P T H I E M' → vSpot n P z1 z2 z3 z4 v → Q (iI v) M') : f_X8_spot N (iI z1) (iI z2) (iI z3) (iI z4) M Q := by
  unfold f_X8_spot
  intro M1 e
  have f1 : fz 47 62 M M1 := by rw [e]; exact fz_0
  have r1 : RR n P T H I E M1 := by rw [e]; exact RR_0 h
  have hn := RR_n r1.1
  refine t_X8_arePair hn.1 hn.2 h1.1 h1.2 h2.1 h2.2 (fun a b e1 l1 e2 l2 ne => ?_) (fun w => ?_)
  · refine ⟨fun e => absurd e (by decide), fun _ => ⟨fun c => ?_, fun c => ?_⟩⟩
    · simp (disch := omega) only [iI_m1, iI_0, iI_1, iI_2, iI_3, iI_4, iI_5, iI_6, iI_7, iI_8, iI_9, iI_10, iI_11, iI_12, iI_13, iI_16, iI_18, iI_20, iI_24, iI_31, iI_32, iI_33, iI_36, iI_48, iI_57, iI_59, iI_63, iI_64, iI_97, iI_100, iI_101, iI_130, iI_255, iI_256, iI_512, iI_1000, iI_1009, iI_2000, iI_2048, iI_32768, iI_2147483647, iI_add, iI_sub, iI_mul, iI_neg, iI_lt, iI_le, iI_eq, iI_in] at c
      exact hQ M1 (-1) f1 r1 (Or.inr ⟨by omega, rfl⟩)
    · simp (disch := omega) only [iI_m1, iI_0, iI_1, iI_2, iI_3, iI_4, iI_5, iI_6, iI_7, iI_8, iI_9, iI_10, iI_11, iI_12, iI_13, iI_16, iI_18, iI_20, iI_24, iI_31, iI_32, iI_33, iI_36, iI_48, iI_57, iI_59, iI_63, iI_64, iI_97, iI_100, iI_101, iI_130, iI_255, iI_256, iI_512, iI_1000, iI_1009, iI_2000, iI_2048, iI_32768, iI_2147483647, iI_add, iI_sub, iI_mul, iI_neg, iI_lt, iI_le, iI_eq, iI_in] at c
      refine t_X8_upTo (h := 5) h4.1 h4.2 (by decide) (fun u e4 l4 => ?_) (fun w => ?_)
      · have hv : (((0 ≤ z1 ∧ z1 < n) ∧ (0 ≤ z2 ∧ z2 < n) ∧ z1 ≠ z2) ∧ 0 ≤ z3 ∧ (0 ≤ z4 ∧ z4 < 6)) := by omega
        subst e1; subst e2; subst e4
        refine ⟨fun _ => ?_, fun e => absurd e (by decide)⟩
        refine r_meet hN r1 l1 l2 (fun hl M' f2 r2 => ?_) (fun hl M' f2 r2 d2 m2 s2 t2 => ?_)
        · exact ⟨fun e => absurd rfl e, fun _ => hQ M' (-4) (f1.tr f2) r2 (Or.inl ⟨hv, Or.inl ⟨by rw [toN, toN]; exact hl, rfl⟩⟩)⟩
        · have hQ' : ∀ v, spV (P a) (P b) z3 (u : Int) v → Q (iI v) M' := fun v hs => hQ M' v (f1.tr f2) r2 (Or.inl ⟨hv, by rw [toN, toN]; exact hs⟩)
          refine ⟨fun _ => ?_, fun e => absurd e (by decide)⟩
          have hfl := fc_le (ML (P a) (P b)) (ML (P a) (P b)).length
          rw [t2]
          refine ⟨fun w => ?_, fun w => ?_⟩
          · simp (disch := omega) only [iI_m1, iI_0, iI_1, iI_2, iI_3, iI_4, iI_5, iI_6, iI_7, iI_8, iI_9, iI_10, iI_11, iI_12, iI_13, iI_16, iI_18, iI_20, iI_24, iI_31, iI_32, iI_33, iI_36, iI_48, iI_57, iI_59, iI_63, iI_64, iI_97, iI_100, iI_101, iI_130, iI_255, iI_256, iI_512, iI_1000, iI_1009, iI_2000, iI_2048, iI_32768, iI_2147483647, iI_add, iI_sub, iI_mul, iI_neg, iI_lt, iI_le, iI_eq, iI_in] at w
            obtain ⟨k, rfl⟩ : ∃ k : Nat, z3 = (k : Int) := ⟨z3.toNat, by omega⟩
            refine ⟨fun w2 => ?_, fun w2 => ?_⟩
            · simp (disch := omega) only [iI_m1, iI_0, iI_1, iI_2, iI_3, iI_4, iI_5, iI_6, iI_7, iI_8, iI_9, iI_10, iI_11, iI_12, iI_13, iI_16, iI_18, iI_20, iI_24, iI_31, iI_32, iI_33, iI_36, iI_48, iI_57, iI_59, iI_63, iI_64, iI_97, iI_100, iI_101, iI_130, iI_255, iI_256, iI_512, iI_1000, iI_1009, iI_2000, iI_2048, iI_32768, iI_2147483647, iI_add, iI_sub, iI_mul, iI_neg, iI_lt, iI_le, iI_eq, iI_in] at w2
              refine t_X8_ofSpot (p := P a) (q := P b) (by omega) m2 (okL_ML _ _) s2 (by omega) (by omega) (by omega) (fun v hv2 => ?_)
              exact hQ' v (Or.inr ⟨hl, Or.inr ⟨w, by rw [toN, toN]; exact hv2⟩⟩)
            · simp (disch := omega) only [iI_m1, iI_0, iI_1, iI_2, iI_3, iI_4, iI_5, iI_6, iI_7, iI_8, iI_9, iI_10, iI_11, iI_12, iI_13, iI_16, iI_18, iI_20, iI_24, iI_31, iI_32, iI_33, iI_36, iI_48, iI_57, iI_59, iI_63, iI_64, iI_97, iI_100, iI_101, iI_130, iI_255, iI_256, iI_512, iI_1000, iI_1009, iI_2000, iI_2048, iI_32768, iI_2147483647, iI_add, iI_sub, iI_mul, iI_neg, iI_lt, iI_le, iI_eq, iI_in] at w2
              obtain rfl : u = 0 := by omega
              refine t_X8_kindOf (by omega) (d2 a l1) (d2 b l2) m2 (okL_ML _ _) s2 (by omega) ?_
              exact hQ' _ (Or.inr ⟨hl, Or.inr ⟨w, by rw [toN]; exact ⟨fun _ => rfl, fun e => absurd e (by decide), fun e => absurd e (by decide), fun e => absurd e (by decide), fun e => absurd e (by decide), fun e => absurd e (by decide)⟩⟩⟩)
          · simp (disch := omega) only [iI_m1, iI_0, iI_1, iI_2, iI_3, iI_4, iI_5, iI_6, iI_7, iI_8, iI_9, iI_10, iI_11, iI_12, iI_13, iI_16, iI_18, iI_20, iI_24, iI_31, iI_32, iI_33, iI_36, iI_48, iI_57, iI_59, iI_63, iI_64, iI_97, iI_100, iI_101, iI_130, iI_255, iI_256, iI_512, iI_1000, iI_1009, iI_2000, iI_2048, iI_32768, iI_2147483647, iI_add, iI_sub, iI_mul, iI_neg, iI_lt, iI_le, iI_eq, iI_in] at w
            exact hQ' (-9) (Or.inr ⟨hl, Or.inl ⟨by omega, rfl⟩⟩)
      · exact ⟨fun e => absurd rfl e, fun _ => hQ M1 (-1) f1 r1 (Or.inr ⟨by omega, rfl⟩)⟩
  · exact ⟨fun _ => hQ M1 (-1) f1 r1 (Or.inr ⟨by omega, rfl⟩), fun e => absurd rfl e⟩
