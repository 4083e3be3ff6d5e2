/-! ===== the reference shifts and turns round ===== -/
theorem pShOk {p : Nat → Int} {dx dy : Int} (h : cSh p dx dy 4) : pOk (pSh p dx dy) := by
  intro k hk
  have h1 := h (k / 2) (by omega)
  unfold pSh
  by_cases hp : k % 2 = 0
  · rw [if_pos hp]
    rw [show 2 * (k / 2) = k by omega] at h1
    exact h1.1
  · rw [if_neg hp]
    rw [show 2 * (k / 2) + 1 = k by omega] at h1
    exact h1.2
theorem pRvOk {p : Nat → Int} (h : pOk p) : pOk (pRv p) := by
  intro k hk
  unfold pRv
  exact h _ (by omega)
theorem r_shifts {N n : Nat} {P : Nat → Nat → Int} {T : TxS} {H : HiS} {I : ImS} {E : SeS} {z1 z2 z3 : Int} {M : zMem} {Q : Int32 → zMem → Prop} (hN : 400 ≤ N) (h : RR n P T H I E M) (h1 : -2147483648 ≤ z1 ∧ z1 < 2147483648) (h2 : -2147483648 ≤ z2 ∧ z2 < 2147483648) (h3 : -2147483648 ≤ z3 ∧ z3 < 2147483648) (hQ : ∀ M', fz 47 62 M M' → RR n (pShS n P z1 z2 z3) T (hShS n P H z1 z2 z3) I E M' → Q (iI (rSh n P z1 z2 z3)) M') : f_X8_shifts N (iI z1) (iI z2) (iI z3) M Q := by
  unfold f_X8_shifts
  unfold rSh pShS hShS at hQ
  intro M1 e
  have f1 : fz 47 62 M M1 := by rw [e]; exact fz_0
  have r1 : RR n P T H I E M1 := by rw [e]; exact RR_0 h
  have hn := RR_n r1.1
  have hn1 := hn.1
  have bad : ¬ okSh n P z1 z2 z3 → Q (iI (-1)) M1 := by
    intro w
    rw [ifp_f (fun q => w q.1), ifp_f (fun q => w q.1), ifp_f w] at hQ
    exact hQ M1 f1 r1
  refine t_X8_isArc hn.1 hn.2 h1.1 h1.2 (fun a e1 l1 => ?_) (fun w => ⟨fun _ => bad (fun q => w q.1), fun e => absurd rfl e⟩)
  subst e1
  have hp := (r1.1.1.2.2 a l1).1
  have hp0 := hp 0 (by decide)
  have hp1 := hp 1 (by decide)
  refine ⟨fun e => absurd e (by decide), fun _ => ?_⟩
  refine t_X8_m18 (z := z2) h2 (fun l2 => ?_) (fun w => ⟨fun _ => bad (fun q => w (by have := q.2 0 (by decide); rw [toN] at this; simp only [Nat.mul_zero, Nat.zero_add] at this; omega)), fun e => absurd rfl e⟩)
  refine ⟨fun e => absurd e (by decide), fun _ => ?_⟩
  refine t_X8_m18 (z := z3) h3 (fun l3 => ?_) (fun w => ⟨fun e => absurd rfl e, fun _ => bad (fun q => w (by have := q.2 0 (by decide); rw [toN] at this; simp only [Nat.mul_zero, Nat.zero_add] at this; omega))⟩)
  refine ⟨fun _ => ?_, fun e => absurd e (by decide)⟩
  have ix : ∀ i : Nat, i < 4 → (8 : Int32) * iI (a : Int) + (2 : Int32) * iI (i : Int) = iI ((8 * a + 2 * i : Nat) : Int) ∧ iI ((8 * a + 2 * i : Nat) : Int) + 1 = iI ((8 * a + (2 * i + 1) : Nat) : Int) := fun i hi => ⟨by rw [iI_8, iI_2, iI_mul, iI_mul, iI_add]; congr 1 <;> omega, by rw [iI_1, iI_add]; rfl⟩
  have b119 : cSh (P a) z2 z3 4 → ¬ (z2 = 0 ∧ z3 = 0) → f_X8_shifts_b119 N (iI (a : Int)) (iI z2) (iI z3) M1 Q := by
    intro hc ns
    have ok : okSh n P (a : Int) z2 z3 := ⟨by omega, by rw [toN]; exact hc⟩
    rw [ifp_t ⟨ok, ns⟩, ifp_t ⟨ok, ns⟩, ifp_t ok, ifp_f ns, toN] at hQ
    unfold f_X8_shifts_b119
    refine r_notes hN r1 (fun M9 n9 => ?_)
    have c9 : ∀ k, k < 8 → M9.1 48 (8 * a + k) = iI (P a k) := fun k hk => by rw [n9.2.1 _ _ (by omega) (by omega)]; exact (r1.1.1.2.2 a l1).2 k hk
    have lp : ∀ (r f i : Nat) (M' : zMem), r + i = 4 → r + 1 ≤ f → fz 47 62 M9 M' → (∀ c k, ¬ (c = 48 ∧ 8 * a ≤ k ∧ k < 8 * a + 8) → M'.1 c k = M9.1 c k) → (∀ k, k < 8 → M'.1 48 (8 * a + k) = iI (if k < 2 * i then pSh (P a) z2 z3 k else P a k)) → f_X8_shifts_l126 N (iI (a : Int)) (iI z2) (iI z3) Q f (iI (i : Int)) M' := by
      intro r
      induction r with
      | zero =>
        intro f i M' hi hf f2 q1 q2
        obtain ⟨f, rfl⟩ : ∃ g, f = g + 1 := ⟨f - 1, by omega⟩
        show f_X8_shifts_b126 N (f_X8_shifts_l126 N (iI (a : Int)) (iI z2) (iI z3) Q f) (iI (a : Int)) (iI z2) (iI z3) (iI (i : Int)) M' Q
        unfold f_X8_shifts_b126
        refine ⟨fun _ => ?_, fun cc => ?_⟩
        · obtain ⟨w1, w2⟩ := RR_chg (M' := M') (p' := pSh (P a) z2 z3) r1 l1 (pShOk hc) n9 f2 q1 (fun k hk => by rw [q2 k hk, if_pos (by omega)])
          exact hQ M' (f1.tr w1) w2
        · simp (disch := omega) only [iI_m1, iI_0, iI_1, iI_2, iI_3, iI_4, iI_5, iI_6, iI_7, iI_8, iI_9, iI_10, iI_11, iI_12, iI_13, iI_16, iI_18, iI_20, iI_24, iI_31, iI_32, iI_33, iI_36, iI_48, iI_57, iI_59, iI_63, iI_64, iI_97, iI_100, iI_101, iI_130, iI_255, iI_256, iI_512, iI_1000, iI_1009, iI_2000, iI_2048, iI_32768, iI_2147483647, iI_add, iI_sub, iI_mul, iI_neg, iI_lt, iI_le, iI_eq, iI_in] at cc
          omega
      | succ r ih =>
        intro f i M' hi hf f2 q1 q2
        obtain ⟨f, rfl⟩ : ∃ g, f = g + 1 := ⟨f - 1, by omega⟩
        show f_X8_shifts_b126 N (f_X8_shifts_l126 N (iI (a : Int)) (iI z2) (iI z3) Q f) (iI (a : Int)) (iI z2) (iI z3) (iI (i : Int)) M' Q
        unfold f_X8_shifts_b126
        obtain ⟨x1, x2⟩ := ix i (by omega)
        rw [x1, x2]
        have v2 : vp_in (iI ((8 * a + 2 * i : Nat) : Int)) 32 := iI_in0 (by omega) (by omega) (by decide)
        have v3 : vp_in (iI ((8 * a + (2 * i + 1) : Nat) : Int)) 32 := iI_in0 (by omega) (by omega) (by decide)
        refine ⟨fun cc => ?_, fun _ => ⟨v2, v2, fun M10 g10 => ⟨v3, v3, fun M11 g11 v e => ?_⟩⟩⟩
        · simp (disch := omega) only [iI_m1, iI_0, iI_1, iI_2, iI_3, iI_4, iI_5, iI_6, iI_7, iI_8, iI_9, iI_10, iI_11, iI_12, iI_13, iI_16, iI_18, iI_20, iI_24, iI_31, iI_32, iI_33, iI_36, iI_48, iI_57, iI_59, iI_63, iI_64, iI_97, iI_100, iI_101, iI_130, iI_255, iI_256, iI_512, iI_1000, iI_1009, iI_2000, iI_2048, iI_32768, iI_2147483647, iI_add, iI_sub, iI_mul, iI_neg, iI_lt, iI_le, iI_eq, iI_in] at cc
          omega
        · rw [zst_iI (by omega) (by omega), toN, zrd_iI (by omega) (by omega), toN, q2 _ (by omega), if_neg (by omega), iI_add] at g10
          have r10 : M10.1 48 (8 * a + (2 * i + 1)) = iI (P a (2 * i + 1)) := by
            subst g10
            rw [zwI_1, if_neg (by omega), q2 _ (by omega), if_neg (by omega)]
          rw [zst_iI (by omega) (by omega), toN, zrd_iI (by omega) (by omega), toN, r10, iI_add] at g11
          simp (disch := omega) only [iI_m1, iI_0, iI_1, iI_2, iI_3, iI_4, iI_5, iI_6, iI_7, iI_8, iI_9, iI_10, iI_11, iI_12, iI_13, iI_16, iI_18, iI_20, iI_24, iI_31, iI_32, iI_33, iI_36, iI_48, iI_57, iI_59, iI_63, iI_64, iI_97, iI_100, iI_101, iI_130, iI_255, iI_256, iI_512, iI_1000, iI_1009, iI_2000, iI_2048, iI_32768, iI_2147483647, iI_add, iI_sub, iI_mul, iI_neg, iI_lt, iI_le, iI_eq, iI_in] at e
          subst e
          refine ih f (i + 1) M11 (by omega) (by omega) (f2.tr (by subst g10; subst g11; exact (fz_wI (by decide) (by decide)).tr (fz_wI (by decide) (by decide)))) (fun c k w => ?_) (fun k hk => ?_)
          · subst g11; rw [zwI_1, if_neg (by omega)]
            subst g10; rw [zwI_1, if_neg (by omega)]
            exact q1 c k w
          · subst g11; rw [zwI_1]
            by_cases hk1 : k = 2 * i + 1
            · rw [if_pos ⟨rfl, by omega⟩, if_pos (by omega), hk1]
              unfold pSh
              rw [if_neg (by omega)]
            · rw [if_neg (by omega)]
              subst g10; rw [zwI_1]
              by_cases hk0 : k = 2 * i
              · rw [if_pos ⟨rfl, by omega⟩, if_pos (by omega), hk0]
                unfold pSh
                rw [if_pos (by omega)]
              · rw [if_neg (by omega), q2 k hk]
                by_cases hk2 : k < 2 * i
                · rw [if_pos hk2, if_pos (by omega)]
                · rw [if_neg hk2, if_neg (by omega)]
    exact lp 4 N 0 M9 (by omega) (by omega) fz.rf (fun c k w => rfl) (fun k hk => by rw [c9 k hk, if_neg (by omega)])
  have ck : ∀ (r f i : Nat), r + i = 4 → r + 1 ≤ f → cSh (P a) z2 z3 i → f_X8_shifts_l40 N (iI (a : Int)) (iI z2) (iI z3) Q f (iI (i : Int)) M1 := by
    intro r
    induction r with
    | zero =>
      intro f i hi hf hc
      obtain ⟨f, rfl⟩ : ∃ g, f = g + 1 := ⟨f - 1, by omega⟩
      show f_X8_shifts_b40 N (f_X8_shifts_l40 N (iI (a : Int)) (iI z2) (iI z3) Q f) (iI (a : Int)) (iI z2) (iI z3) (iI (i : Int)) M1 Q
      unfold f_X8_shifts_b40
      obtain rfl : i = 4 := by omega
      refine ⟨fun _ => ⟨fun c => ?_, fun c => ⟨fun c2 => ?_, fun c2 => ?_⟩⟩, fun cc => absurd (by decide) cc⟩
      · simp (disch := omega) only [iI_m1, iI_0, iI_1, iI_2, iI_3, iI_4, iI_5, iI_6, iI_7, iI_8, iI_9, iI_10, iI_11, iI_12, iI_13, iI_16, iI_18, iI_20, iI_24, iI_31, iI_32, iI_33, iI_36, iI_48, iI_57, iI_59, iI_63, iI_64, iI_97, iI_100, iI_101, iI_130, iI_255, iI_256, iI_512, iI_1000, iI_1009, iI_2000, iI_2048, iI_32768, iI_2147483647, iI_add, iI_sub, iI_mul, iI_neg, iI_lt, iI_le, iI_eq, iI_in] at c
        exact b119 hc (fun q => c q.1)
      · simp (disch := omega) only [iI_m1, iI_0, iI_1, iI_2, iI_3, iI_4, iI_5, iI_6, iI_7, iI_8, iI_9, iI_10, iI_11, iI_12, iI_13, iI_16, iI_18, iI_20, iI_24, iI_31, iI_32, iI_33, iI_36, iI_48, iI_57, iI_59, iI_63, iI_64, iI_97, iI_100, iI_101, iI_130, iI_255, iI_256, iI_512, iI_1000, iI_1009, iI_2000, iI_2048, iI_32768, iI_2147483647, iI_add, iI_sub, iI_mul, iI_neg, iI_lt, iI_le, iI_eq, iI_in] at c c2
        exact b119 hc (fun q => c2 q.2)
      · simp (disch := omega) only [iI_m1, iI_0, iI_1, iI_2, iI_3, iI_4, iI_5, iI_6, iI_7, iI_8, iI_9, iI_10, iI_11, iI_12, iI_13, iI_16, iI_18, iI_20, iI_24, iI_31, iI_32, iI_33, iI_36, iI_48, iI_57, iI_59, iI_63, iI_64, iI_97, iI_100, iI_101, iI_130, iI_255, iI_256, iI_512, iI_1000, iI_1009, iI_2000, iI_2048, iI_32768, iI_2147483647, iI_add, iI_sub, iI_mul, iI_neg, iI_lt, iI_le, iI_eq, iI_in] at c c2
        have ok : okSh n P (a : Int) z2 z3 := ⟨by omega, by rw [toN]; exact hc⟩
        rw [ifp_f (fun q => q.2 ⟨c, c2⟩), ifp_f (fun q => q.2 ⟨c, c2⟩), ifp_t ok, ifp_t ⟨c, c2⟩] at hQ
        exact hQ M1 f1 r1
    | succ r ih =>
      intro f i hi hf hc
      obtain ⟨f, rfl⟩ : ∃ g, f = g + 1 := ⟨f - 1, by omega⟩
      show f_X8_shifts_b40 N (f_X8_shifts_l40 N (iI (a : Int)) (iI z2) (iI z3) Q f) (iI (a : Int)) (iI z2) (iI z3) (iI (i : Int)) M1 Q
      unfold f_X8_shifts_b40
      obtain ⟨x1, x2⟩ := ix i (by omega)
      rw [x1, x2]
      have v2 : vp_in (iI ((8 * a + 2 * i : Nat) : Int)) 32 := iI_in0 (by omega) (by omega) (by decide)
      have v3 : vp_in (iI ((8 * a + (2 * i + 1) : Nat) : Int)) 32 := iI_in0 (by omega) (by omega) (by decide)
      have b0 := hp (2 * i) (by omega)
      have b1 := hp (2 * i + 1) (by omega)
      refine ⟨fun cc => ?_, fun _ => ⟨v2, ?_⟩⟩
      · simp (disch := omega) only [iI_m1, iI_0, iI_1, iI_2, iI_3, iI_4, iI_5, iI_6, iI_7, iI_8, iI_9, iI_10, iI_11, iI_12, iI_13, iI_16, iI_18, iI_20, iI_24, iI_31, iI_32, iI_33, iI_36, iI_48, iI_57, iI_59, iI_63, iI_64, iI_97, iI_100, iI_101, iI_130, iI_255, iI_256, iI_512, iI_1000, iI_1009, iI_2000, iI_2048, iI_32768, iI_2147483647, iI_add, iI_sub, iI_mul, iI_neg, iI_lt, iI_le, iI_eq, iI_in] at cc
        omega
      · rw [zrd_iI (by omega) (by omega), toN, (r1.1.1.2.2 a l1).2 _ (by omega), iI_add]
        refine t_X8_m9 (z := P a (2 * i) + z2) (by omega) (fun k1 => ?_) (fun w => ⟨fun _ => bad (fun q => w (by have := q.2 i (by omega); rw [toN] at this; exact this.1)), fun e => absurd rfl e⟩)
        refine ⟨fun e => absurd e (by decide), fun _ => ⟨v3, ?_⟩⟩
        rw [zrd_iI (by omega) (by omega), toN, (r1.1.1.2.2 a l1).2 _ (by omega), iI_add]
        refine t_X8_m9 (z := P a (2 * i + 1) + z3) (by omega) (fun k2 => ?_) (fun w => ⟨fun e => absurd rfl e, fun _ => bad (fun q => w (by have := q.2 i (by omega); rw [toN] at this; exact this.2))⟩)
        refine ⟨fun _ v e => ?_, fun e => absurd e (by decide)⟩
        simp (disch := omega) only [iI_m1, iI_0, iI_1, iI_2, iI_3, iI_4, iI_5, iI_6, iI_7, iI_8, iI_9, iI_10, iI_11, iI_12, iI_13, iI_16, iI_18, iI_20, iI_24, iI_31, iI_32, iI_33, iI_36, iI_48, iI_57, iI_59, iI_63, iI_64, iI_97, iI_100, iI_101, iI_130, iI_255, iI_256, iI_512, iI_1000, iI_1009, iI_2000, iI_2048, iI_32768, iI_2147483647, iI_add, iI_sub, iI_mul, iI_neg, iI_lt, iI_le, iI_eq, iI_in] at e
        subst e
        refine ih f (i + 1) (by omega) (by omega) (fun j hj => ?_)
        by_cases hji : j = i
        · subst hji; exact ⟨k1, k2⟩
        · exact hc j (by omega)
  exact ck 4 N 0 (by omega) (by omega) (fun i hi => by omega)
theorem r_reverses {N n : Nat} {P : Nat → Nat → Int} {T : TxS} {H : HiS} {I : ImS} {E : SeS} {z : Int} {M : zMem} {Q : Int32 → zMem → Prop} (hN : 400 ≤ N) (h : RR n P T H I E M) (h1 : -2147483648 ≤ z ∧ z < 2147483648) (hQ : ∀ M', fz 47 62 M M' → RR n (pRvS n P z) T (hRvS n P H z) I E M' → Q (iI (rRv n z)) M') : f_X8_reverses N (iI z) M Q := by
  unfold f_X8_reverses
  unfold rRv pRvS hRvS at hQ
  intro M1 e
  have f1 : fz 47 62 M M1 := by rw [e]; exact fz_0
  have r1 : RR n P T H I E M1 := by rw [e]; exact RR_0 h
  have hn := RR_n r1.1
  have hn1 := hn.1
  refine t_X8_isArc hn.1 hn.2 h1.1 h1.2 (fun a e1 l1 => ?_) (fun w => ?_)
  · rw [ifp_t (by omega), ifp_t (by omega), ifp_t (by omega)] at hQ
    subst e1
    rw [toN] at hQ
    refine ⟨fun _ => ?_, fun e => absurd e (by decide)⟩
    refine r_notes hN r1 (fun M9 n9 => ?_)
    have c9 : ∀ k, k < 8 → M9.1 48 (8 * a + k) = iI (P a k) := fun k hk => by rw [n9.2.1 _ _ (by omega) (by omega)]; exact (r1.1.1.2.2 a l1).2 k hk
    have lp : ∀ (r f j : Nat) (M' : zMem), r + j = 4 → r + 1 ≤ f → fz 47 62 M9 M' → (∀ c k, ¬ (c = 48 ∧ 8 * a ≤ k ∧ k < 8 * a + 8) → M'.1 c k = M9.1 c k) → (∀ k, k < 8 → M'.1 48 (8 * a + k) = iI (if k < j ∨ 6 - k / 2 * 2 + k % 2 < j then P a (6 - k / 2 * 2 + k % 2) else P a k)) → f_X8_reverses_l21 N (iI (a : Int)) Q f (iI (j : Int)) M' := by
      intro r
      induction r with
      | zero =>
        intro f j M' hj hf f2 q1 q2
        obtain ⟨f, rfl⟩ : ∃ g, f = g + 1 := ⟨f - 1, by omega⟩
        show f_X8_reverses_b21 N (f_X8_reverses_l21 N (iI (a : Int)) Q f) (iI (a : Int)) (iI (j : Int)) M' Q
        unfold f_X8_reverses_b21
        refine ⟨fun _ => ?_, fun cc => ?_⟩
        · obtain ⟨w1, w2⟩ := RR_chg (M' := M') (p' := pRv (P a)) r1 l1 (pRvOk (r1.1.1.2.2 a l1).1) n9 f2 q1 (fun k hk => by rw [q2 k hk, if_pos (by omega)]; rfl)
          exact hQ M' (f1.tr w1) w2
        · simp (disch := omega) only [iI_m1, iI_0, iI_1, iI_2, iI_3, iI_4, iI_5, iI_6, iI_7, iI_8, iI_9, iI_10, iI_11, iI_12, iI_13, iI_16, iI_18, iI_20, iI_24, iI_31, iI_32, iI_33, iI_36, iI_48, iI_57, iI_59, iI_63, iI_64, iI_97, iI_100, iI_101, iI_130, iI_255, iI_256, iI_512, iI_1000, iI_1009, iI_2000, iI_2048, iI_32768, iI_2147483647, iI_add, iI_sub, iI_mul, iI_neg, iI_lt, iI_le, iI_eq, iI_in] at cc
          omega
      | succ r ih =>
        intro f j M' hj hf f2 q1 q2
        obtain ⟨f, rfl⟩ : ∃ g, f = g + 1 := ⟨f - 1, by omega⟩
        show f_X8_reverses_b21 N (f_X8_reverses_l21 N (iI (a : Int)) Q f) (iI (a : Int)) (iI (j : Int)) M' Q
        unfold f_X8_reverses_b21
        refine ⟨fun cc => ?_, fun _ v6 e6 v7 e7 => ?_⟩
        · simp (disch := omega) only [iI_m1, iI_0, iI_1, iI_2, iI_3, iI_4, iI_5, iI_6, iI_7, iI_8, iI_9, iI_10, iI_11, iI_12, iI_13, iI_16, iI_18, iI_20, iI_24, iI_31, iI_32, iI_33, iI_36, iI_48, iI_57, iI_59, iI_63, iI_64, iI_97, iI_100, iI_101, iI_130, iI_255, iI_256, iI_512, iI_1000, iI_1009, iI_2000, iI_2048, iI_32768, iI_2147483647, iI_add, iI_sub, iI_mul, iI_neg, iI_lt, iI_le, iI_eq, iI_in] at cc
          omega
        have x6 : v6 = iI ((8 * a + j : Nat) : Int) := by rw [e6, iI_8, iI_mul, iI_add]; congr 1 <;> omega
        have x7 : v7 = iI ((8 * a + (6 - j / 2 * 2 + j % 2) : Nat) : Int) := by
          rw [e7, iI_8, iI_2, iI_6, iI_mul, iI_add, show iI (2 : Int) = iI ((2 : Nat) : Int) from rfl, nI_ediv j 2 (by omega) (by omega) (by omega), iI_mul, iI_sub, iI_sub, iI_add]
          congr 1
          omega
        subst x6; subst x7
        have v6' : vp_in (iI ((8 * a + j : Nat) : Int)) 32 := iI_in0 (by omega) (by omega) (by decide)
        have v7' : vp_in (iI ((8 * a + (6 - j / 2 * 2 + j % 2) : Nat) : Int)) 32 := iI_in0 (by omega) (by omega) (by decide)
        refine ⟨v6', fun v8 e8 => ⟨v7', v6', fun M9' g9 => ⟨v7', fun M10 g10 v e => ?_⟩⟩⟩
        rw [zrd_iI (by omega) (by omega), toN, q2 _ (by omega), if_neg (by omega)] at e8
        rw [zst_iI (by omega) (by omega), toN, zrd_iI (by omega) (by omega), toN, q2 _ (by omega), if_neg (by omega)] at g9
        rw [zst_iI (by omega) (by omega), toN] at g10
        simp (disch := omega) only [iI_m1, iI_0, iI_1, iI_2, iI_3, iI_4, iI_5, iI_6, iI_7, iI_8, iI_9, iI_10, iI_11, iI_12, iI_13, iI_16, iI_18, iI_20, iI_24, iI_31, iI_32, iI_33, iI_36, iI_48, iI_57, iI_59, iI_63, iI_64, iI_97, iI_100, iI_101, iI_130, iI_255, iI_256, iI_512, iI_1000, iI_1009, iI_2000, iI_2048, iI_32768, iI_2147483647, iI_add, iI_sub, iI_mul, iI_neg, iI_lt, iI_le, iI_eq, iI_in] at e
        subst e
        subst e8
        refine ih f (j + 1) M10 (by omega) (by omega) (f2.tr (by subst g9; subst g10; exact (fz_wI (by decide) (by decide)).tr (fz_wI (by decide) (by decide)))) (fun c k w => ?_) (fun k hk => ?_)
        · subst g10; rw [zwI_1, if_neg (by omega)]
          subst g9; rw [zwI_1, if_neg (by omega)]
          exact q1 c k w
        · subst g10; rw [zwI_1]
          by_cases hk1 : k = 6 - j / 2 * 2 + j % 2
          · rw [if_pos ⟨rfl, by omega⟩, if_pos (by omega)]
            congr 2
            omega
          · rw [if_neg (by omega)]
            subst g9; rw [zwI_1]
            by_cases hk0 : k = j
            · rw [if_pos ⟨rfl, by omega⟩, if_pos (by omega), hk0]
            · rw [if_neg (by omega), q2 k hk]
              by_cases hk2 : k < j ∨ 6 - k / 2 * 2 + k % 2 < j
              · rw [if_pos hk2, if_pos (by omega)]
              · rw [if_neg hk2, if_neg (by omega)]
    exact lp 4 N 0 M9 (by omega) (by omega) fz.rf (fun c k w => rfl) (fun k hk => by rw [c9 k hk, if_neg (by omega)])
  · rw [ifp_f w, ifp_f w, ifp_f w] at hQ
    exact ⟨fun e => absurd rfl e, fun _ => hQ M1 f1 r1⟩
