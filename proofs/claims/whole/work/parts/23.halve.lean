/-! ===== writes of an arc: halving, boxes, bands ===== -/
theorem zd2 {x z : Int} (h : x = 2 * z) (h1 : -2147483647 ≤ x) (h2 : x < 2147483648) : iI x / iI 2 = iI z := by
  rw [iI_div h1 h2 (by decide) (by decide), h, Int.mul_tdiv_cancel_left z (by decide)]
theorem t_X0_halve {N a m ax : Nat} {p : Nat → Int} {M : zMem} {Q : zMem → Prop} (hp : pOk p) (h1 : 1 ≤ m) (h2 : m < 32) (hax : ax < 2) (hR : RN p a m M)
    (hQ : ∀ M', fz (a + 2) (a + 2) M M' → (∀ j, (j < 16 * m ∨ 16 * m + 16 ≤ j ∨ j % 2 ≠ ax) → M'.1 (a + 2) j = M.1 (a + 2) j) → (∀ i, i < 4 → M'.1 (a + 2) (8 * (2 * m) + 2 * i + ax) = iI (nd p (2 * m) i ax) ∧ M'.1 (a + 2) (8 * (2 * m + 1) + 2 * i + ax) = iI (nd p (2 * m + 1) i ax)) → Q M') : f_X0_halve N a (iI m) (iI ax) M Q := by
  unfold f_X0_halve
  refine t_X0_at (i := 0) (by omega) (by decide) hax hR ?_
  refine t_X0_at (i := 1) (by omega) (by decide) hax hR ?_
  refine t_X0_at (i := 2) (by omega) (by decide) hax hR ?_
  refine t_X0_at (i := 3) (by omega) (by decide) hax hR ?_
  have b0 := nd_bd hp (i := 0) h1 (show m < 64 by omega) hax
  have b1 := nd_bd hp (i := 1) h1 (show m < 64 by omega) hax
  have b2 := nd_bd hp (i := 2) h1 (show m < 64 by omega) hax
  have b3 := nd_bd hp (i := 3) h1 (show m < 64 by omega) hax
  obtain ⟨y, e0, e1, e2, e3, e4, e5, e6, e7, e8⟩ := nd_half p (ax := ax) h1 h2
  intro v9 q9 v10 q10 v11 q11 v12 q12 v13 q13 v14 q14 v15 q15
  simp (disch := omega) only [zd2 e1, iI_m1, iI_0, iI_1, iI_2, iI_3, iI_4, iI_5, iI_6, iI_7, iI_8, iI_9, iI_10, iI_11, iI_12, iI_13, iI_16, iI_18, iI_20, iI_24, iI_31, iI_32, iI_33, iI_36, iI_48, iI_57, iI_59, iI_63, iI_64, iI_97, iI_100, iI_101, iI_130, iI_255, iI_256, iI_512, iI_1000, iI_1009, iI_2000, iI_2048, iI_32768, iI_2147483647, iI_add, iI_sub, iI_mul, iI_neg, iI_lt, iI_le, iI_eq, iI_in] at q9
  simp (disch := omega) only [zd2 e2, iI_m1, iI_0, iI_1, iI_2, iI_3, iI_4, iI_5, iI_6, iI_7, iI_8, iI_9, iI_10, iI_11, iI_12, iI_13, iI_16, iI_18, iI_20, iI_24, iI_31, iI_32, iI_33, iI_36, iI_48, iI_57, iI_59, iI_63, iI_64, iI_97, iI_100, iI_101, iI_130, iI_255, iI_256, iI_512, iI_1000, iI_1009, iI_2000, iI_2048, iI_32768, iI_2147483647, iI_add, iI_sub, iI_mul, iI_neg, iI_lt, iI_le, iI_eq, iI_in] at q10
  simp (disch := omega) only [zd2 e3, iI_m1, iI_0, iI_1, iI_2, iI_3, iI_4, iI_5, iI_6, iI_7, iI_8, iI_9, iI_10, iI_11, iI_12, iI_13, iI_16, iI_18, iI_20, iI_24, iI_31, iI_32, iI_33, iI_36, iI_48, iI_57, iI_59, iI_63, iI_64, iI_97, iI_100, iI_101, iI_130, iI_255, iI_256, iI_512, iI_1000, iI_1009, iI_2000, iI_2048, iI_32768, iI_2147483647, iI_add, iI_sub, iI_mul, iI_neg, iI_lt, iI_le, iI_eq, iI_in] at q11
  subst q9; subst q10; subst q11
  simp (disch := omega) only [zd2 e4, iI_m1, iI_0, iI_1, iI_2, iI_3, iI_4, iI_5, iI_6, iI_7, iI_8, iI_9, iI_10, iI_11, iI_12, iI_13, iI_16, iI_18, iI_20, iI_24, iI_31, iI_32, iI_33, iI_36, iI_48, iI_57, iI_59, iI_63, iI_64, iI_97, iI_100, iI_101, iI_130, iI_255, iI_256, iI_512, iI_1000, iI_1009, iI_2000, iI_2048, iI_32768, iI_2147483647, iI_add, iI_sub, iI_mul, iI_neg, iI_lt, iI_le, iI_eq, iI_in] at q12
  simp (disch := omega) only [zd2 e5, iI_m1, iI_0, iI_1, iI_2, iI_3, iI_4, iI_5, iI_6, iI_7, iI_8, iI_9, iI_10, iI_11, iI_12, iI_13, iI_16, iI_18, iI_20, iI_24, iI_31, iI_32, iI_33, iI_36, iI_48, iI_57, iI_59, iI_63, iI_64, iI_97, iI_100, iI_101, iI_130, iI_255, iI_256, iI_512, iI_1000, iI_1009, iI_2000, iI_2048, iI_32768, iI_2147483647, iI_add, iI_sub, iI_mul, iI_neg, iI_lt, iI_le, iI_eq, iI_in] at q13
  subst q12; subst q13
  simp (disch := omega) only [zd2 e6, iI_m1, iI_0, iI_1, iI_2, iI_3, iI_4, iI_5, iI_6, iI_7, iI_8, iI_9, iI_10, iI_11, iI_12, iI_13, iI_16, iI_18, iI_20, iI_24, iI_31, iI_32, iI_33, iI_36, iI_48, iI_57, iI_59, iI_63, iI_64, iI_97, iI_100, iI_101, iI_130, iI_255, iI_256, iI_512, iI_1000, iI_1009, iI_2000, iI_2048, iI_32768, iI_2147483647, iI_add, iI_sub, iI_mul, iI_neg, iI_lt, iI_le, iI_eq, iI_in] at q14
  simp (disch := omega) only [iI_m1, iI_0, iI_1, iI_2, iI_3, iI_4, iI_5, iI_6, iI_7, iI_8, iI_9, iI_10, iI_11, iI_12, iI_13, iI_16, iI_18, iI_20, iI_24, iI_31, iI_32, iI_33, iI_36, iI_48, iI_57, iI_59, iI_63, iI_64, iI_97, iI_100, iI_101, iI_130, iI_255, iI_256, iI_512, iI_1000, iI_1009, iI_2000, iI_2048, iI_32768, iI_2147483647, iI_add, iI_sub, iI_mul, iI_neg, iI_lt, iI_le, iI_eq, iI_in] at q15
  subst q14; subst q15
  simp (disch := omega) only [zst_iI, iI_m1, iI_0, iI_1, iI_2, iI_3, iI_4, iI_5, iI_6, iI_7, iI_8, iI_9, iI_10, iI_11, iI_12, iI_13, iI_16, iI_18, iI_20, iI_24, iI_31, iI_32, iI_33, iI_36, iI_48, iI_57, iI_59, iI_63, iI_64, iI_97, iI_100, iI_101, iI_130, iI_255, iI_256, iI_512, iI_1000, iI_1009, iI_2000, iI_2048, iI_32768, iI_2147483647, iI_add, iI_sub, iI_mul, iI_neg, iI_lt, iI_le, iI_eq, iI_in]
  refine ⟨by omega, ?_⟩
  intro M1 g1
  refine ⟨by omega, ?_⟩
  intro M2 g2
  refine ⟨by omega, ?_⟩
  intro M3 g3
  refine ⟨by omega, ?_⟩
  intro M4 g4 v20 q20
  subst q20
  simp (disch := omega) only [zst_iI, iI_m1, iI_0, iI_1, iI_2, iI_3, iI_4, iI_5, iI_6, iI_7, iI_8, iI_9, iI_10, iI_11, iI_12, iI_13, iI_16, iI_18, iI_20, iI_24, iI_31, iI_32, iI_33, iI_36, iI_48, iI_57, iI_59, iI_63, iI_64, iI_97, iI_100, iI_101, iI_130, iI_255, iI_256, iI_512, iI_1000, iI_1009, iI_2000, iI_2048, iI_32768, iI_2147483647, iI_add, iI_sub, iI_mul, iI_neg, iI_lt, iI_le, iI_eq, iI_in]
  refine ⟨by omega, ?_⟩
  intro M5 g5
  refine ⟨by omega, ?_⟩
  intro M6 g6
  refine ⟨by omega, ?_⟩
  intro M7 g7
  refine ⟨by omega, ?_⟩
  intro M8 g8
  subst g1; subst g2; subst g3; subst g4; subst g5; subst g6; subst g7; subst g8
  refine hQ _ ?_ ?_ ?_
  · exact (((((((fz_wI (by omega) (by omega)).tr (fz_wI (by omega) (by omega))).tr (fz_wI (by omega) (by omega))).tr (fz_wI (by omega) (by omega))).tr (fz_wI (by omega) (by omega))).tr (fz_wI (by omega) (by omega))).tr (fz_wI (by omega) (by omega))).tr (fz_wI (by omega) (by omega))
  · intro j hj
    simp only [zwI_1, true_and]
    repeat rw [if_neg (by omega)]
  · intro i hi
    simp only [zwI_1, true_and]
    rcases (show i = 0 ∨ i = 1 ∨ i = 2 ∨ i = 3 by omega) with rfl | rfl | rfl | rfl
    · constructor
      · repeat rw [if_neg (by omega)]
        rw [if_pos (by omega), e0]
      · repeat rw [if_neg (by omega)]
        rw [if_pos (by omega), e7]
    · constructor
      · repeat rw [if_neg (by omega)]
        rw [if_pos (by omega)]
      · repeat rw [if_neg (by omega)]
        rw [if_pos (by omega)]
    · constructor
      · repeat rw [if_neg (by omega)]
        rw [if_pos (by omega)]
      · repeat rw [if_neg (by omega)]
        rw [if_pos (by omega)]
    · constructor
      · repeat rw [if_neg (by omega)]
        rw [if_pos (by omega)]
      · repeat rw [if_neg (by omega)]
        rw [if_pos (by omega), e8]
