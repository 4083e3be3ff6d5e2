theorem iI_min {x y : Int} (h1 : -2147483648 ≤ x) (h2 : x < 2147483648) (h3 : -2147483648 ≤ y) (h4 : y < 2147483648) : (if iI y < iI x then iI y else iI x) = iI (mnI x y) := by
  unfold mnI
  simp only [iI_lt h3 h4 h1 h2]
  split <;> rfl
theorem iI_max {x y : Int} (h1 : -2147483648 ≤ x) (h2 : x < 2147483648) (h3 : -2147483648 ≤ y) (h4 : y < 2147483648) : (if iI x < iI y then iI y else iI x) = iI (mxI x y) := by
  unfold mxI
  simp only [iI_lt h1 h2 h3 h4]
  split <;> rfl
theorem lI_min {x y : Int} (h1 : -1000000000000 ≤ x) (h2 : x < 1000000000000) (h3 : -1000000000000 ≤ y) (h4 : y < 1000000000000) : (if lI y < lI x then lI y else lI x) = lI (mnI x y) := by
  unfold mnI
  simp only [lI_lt (a := y) (b := x) (by omega) (by omega) (by omega) (by omega)]
  split <;> rfl
theorem lI_max {x y : Int} (h1 : -1000000000000 ≤ x) (h2 : x < 1000000000000) (h3 : -1000000000000 ≤ y) (h4 : y < 1000000000000) : (if lI y < lI x then lI x else lI y) = lI (mxI x y) := by
  unfold mxI
  simp only [lI_lt (a := y) (b := x) (by omega) (by omega) (by omega) (by omega)]
  by_cases h : y < x
  · rw [if_pos h, if_neg (by omega)]
  · by_cases h' : x < y
    · rw [if_neg h, if_pos h']
    · rw [if_neg h, if_neg h', show x = y by omega]
theorem mnI_bd {x y B : Int} (h1 : -B ≤ x ∧ x ≤ B) (h2 : -B ≤ y ∧ y ≤ B) : -B ≤ mnI x y ∧ mnI x y ≤ B := by unfold mnI; split <;> omega
theorem mxI_bd {x y B : Int} (h1 : -B ≤ x ∧ x ≤ B) (h2 : -B ≤ y ∧ y ≤ B) : -B ≤ mxI x y ∧ mxI x y ≤ B := by unfold mxI; split <;> omega
theorem s_X0_measureBox {N a m ax j k : Nat} {p : Nat → Int} {l g : Int} {M : zMem} {Q : zMem → Prop} (hp : pOk p) (h1 : 1 ≤ m) (h2 : m < 64) (hax : ax < 2) (hj : j < 4) (hR : RN p a m M) (hl : -294912 ≤ l ∧ l ≤ 294912) (hg : -294912 ≤ g ∧ g ≤ 294912)
    (h : f_X0_measureBox_l14 N a (iI m) (iI ax) Q k (iI (mnI l (nd p m j ax))) (iI (mxI g (nd p m j ax))) (iI ((j + 1 : Nat) : Int)) M) : f_X0_measureBox_l14 N a (iI m) (iI ax) Q (k + 1) (iI l) (iI g) (iI j) M := by
  show f_X0_measureBox_b14 N (f_X0_measureBox_l14 N a (iI m) (iI ax) Q k) a (iI m) (iI ax) (iI l) (iI g) (iI j) M Q
  unfold f_X0_measureBox_b14
  have b := nd_bd hp (i := j) h1 h2 hax
  refine ⟨fun c => ?_, fun c => ?_⟩
  · simp (disch := omega) only [iI_m1, iI_0, iI_1, iI_2, iI_3, iI_4, iI_5, iI_6, iI_7, iI_8, iI_9, iI_10, iI_11, iI_12, iI_13, iI_16, iI_18, iI_20, iI_24, iI_31, iI_32, iI_33, iI_36, iI_48, iI_57, iI_59, iI_63, iI_64, iI_97, iI_100, iI_101, iI_130, iI_255, iI_256, iI_512, iI_1000, iI_1009, iI_2000, iI_2048, iI_32768, iI_2147483647, iI_add, iI_sub, iI_mul, iI_neg, iI_lt, iI_le, iI_eq, iI_in] at c
    omega
  · refine t_X0_at h2 hj hax hR ?_
    intro v7 e7
    refine t_X0_at h2 hj hax hR ?_
    intro v10 e10 v11 e11
    rw [iI_min (by omega) (by omega) (by omega) (by omega)] at e7
    rw [iI_max (by omega) (by omega) (by omega) (by omega)] at e10
    simp (disch := omega) only [iI_m1, iI_0, iI_1, iI_2, iI_3, iI_4, iI_5, iI_6, iI_7, iI_8, iI_9, iI_10, iI_11, iI_12, iI_13, iI_16, iI_18, iI_20, iI_24, iI_31, iI_32, iI_33, iI_36, iI_48, iI_57, iI_59, iI_63, iI_64, iI_97, iI_100, iI_101, iI_130, iI_255, iI_256, iI_512, iI_1000, iI_1009, iI_2000, iI_2048, iI_32768, iI_2147483647, iI_add, iI_sub, iI_mul, iI_neg, iI_lt, iI_le, iI_eq, iI_in] at e11
    subst e7; subst e10; subst e11
    exact h
theorem t_X0_measureBox {N a m ax : Nat} {p : Nat → Int} {M : zMem} {Q : zMem → Prop} (hN : 100 ≤ N) (hp : pOk p) (h1 : 1 ≤ m) (h2 : m < 64) (hax : ax < 2) (hR : RN p a m M)
    (hQ : ∀ M', fz (a + 3) (a + 3) M M' → (∀ j, (j < 4 * m + 2 * ax ∨ 4 * m + 2 * ax + 2 ≤ j) → M'.1 (a + 3) j = M.1 (a + 3) j) → RB p a m ax M' → Q M') : f_X0_measureBox N a (iI m) (iI ax) M Q := by
  unfold f_X0_measureBox
  refine t_X0_at (i := 0) h2 (by decide) hax hR ?_
  have b0 := nd_bd hp (i := 0) h1 h2 hax
  have b1 := nd_bd hp (i := 1) h1 h2 hax
  have b2 := nd_bd hp (i := 2) h1 h2 hax
  have b3 := nd_bd hp (i := 3) h1 h2 hax
  obtain ⟨n, hn⟩ : ∃ n, N = n + 4 := ⟨N - 4, by omega⟩
  suffices hh : f_X0_measureBox_l14 N a (iI m) (iI ax) Q (n + 4) (iI (nd p m 0 ax)) (iI (nd p m 0 ax)) (iI ((1 : Nat) : Int)) M by rw [← hn] at hh; exact hh
  refine s_X0_measureBox hp h1 h2 hax (by decide) hR b0 b0 ?_
  refine s_X0_measureBox hp h1 h2 hax (by decide) hR (mnI_bd b0 b1) (mxI_bd b0 b1) ?_
  refine s_X0_measureBox hp h1 h2 hax (by decide) hR (mnI_bd (mnI_bd b0 b1) b2) (mxI_bd (mxI_bd b0 b1) b2) ?_
  show f_X0_measureBox_b14 N (f_X0_measureBox_l14 N a (iI m) (iI ax) Q n) a (iI m) (iI ax) (iI (bn p m ax)) (iI (bx p m ax)) (iI ((4 : Nat) : Int)) M Q
  unfold f_X0_measureBox_b14
  refine ⟨fun c => ?_, fun c => absurd ?_ c⟩
  · simp (disch := omega) only [zst_iI, iI_m1, iI_0, iI_1, iI_2, iI_3, iI_4, iI_5, iI_6, iI_7, iI_8, iI_9, iI_10, iI_11, iI_12, iI_13, iI_16, iI_18, iI_20, iI_24, iI_31, iI_32, iI_33, iI_36, iI_48, iI_57, iI_59, iI_63, iI_64, iI_97, iI_100, iI_101, iI_130, iI_255, iI_256, iI_512, iI_1000, iI_1009, iI_2000, iI_2048, iI_32768, iI_2147483647, iI_add, iI_sub, iI_mul, iI_neg, iI_lt, iI_le, iI_eq, iI_in]
    refine ⟨by omega, ?_⟩
    intro M1 g1
    refine ⟨by omega, ?_⟩
    intro M2 g2
    subst g1; subst g2
    refine hQ _ ((fz_wI (by omega) (by omega)).tr (fz_wI (by omega) (by omega))) ?_ ?_
    · intro j hj
      simp only [zwI_1, true_and]
      repeat rw [if_neg (by omega)]
    · constructor
      · simp only [zwI_1, true_and]
        repeat rw [if_neg (by omega)]
        rw [if_pos (by omega)]
      · simp only [zwI_1, true_and]
        rw [if_pos (by omega)]
  · simp (disch := omega) only [iI_m1, iI_0, iI_1, iI_2, iI_3, iI_4, iI_5, iI_6, iI_7, iI_8, iI_9, iI_10, iI_11, iI_12, iI_13, iI_16, iI_18, iI_20, iI_24, iI_31, iI_32, iI_33, iI_36, iI_48, iI_57, iI_59, iI_63, iI_64, iI_97, iI_100, iI_101, iI_130, iI_255, iI_256, iI_512, iI_1000, iI_1009, iI_2000, iI_2048, iI_32768, iI_2147483647, iI_add, iI_sub, iI_mul, iI_neg, iI_lt, iI_le, iI_eq, iI_in]
    omega
theorem s_X0_measureBand {N a m j k : Nat} {p : Nat → Int} {l g : Int} {M : zMem} {Q : zMem → Prop} (hp : pOk p) (h1 : 1 ≤ m) (h2 : m < 64) (hj0 : 1 ≤ j) (hj : j < 3) (hR : RN p a m M) (hl : -695784701952 ≤ l ∧ l ≤ 695784701952) (hg : -695784701952 ≤ g ∧ g ≤ 695784701952) (el : M.2 (a + 4) m = lI l) (eg : M.2 (a + 5) m = lI g)
    (h : ∀ M', fz (a + 4) (a + 5) M M' → (∀ i, i ≠ m → M'.2 (a + 4) i = M.2 (a + 4) i ∧ M'.2 (a + 5) i = M.2 (a + 5) i) → M'.2 (a + 4) m = lI (mnI l (sd p m p m j)) → M'.2 (a + 5) m = lI (mxI g (sd p m p m j)) → f_X0_measureBand_l16 N a (iI m) Q k (iI ((j + 1 : Nat) : Int)) M') : f_X0_measureBand_l16 N a (iI m) Q (k + 1) (iI j) M := by
  show f_X0_measureBand_b16 N (f_X0_measureBand_l16 N a (iI m) Q k) a (iI m) (iI j) M Q
  unfold f_X0_measureBand_b16
  have b := sd_bd hp hp (i := j) h1 h2 h1 h2
  refine ⟨fun c => ?_, fun c => ?_⟩
  · simp (disch := omega) only [iI_m1, iI_0, iI_1, iI_2, iI_3, iI_4, iI_5, iI_6, iI_7, iI_8, iI_9, iI_10, iI_11, iI_12, iI_13, iI_16, iI_18, iI_20, iI_24, iI_31, iI_32, iI_33, iI_36, iI_48, iI_57, iI_59, iI_63, iI_64, iI_97, iI_100, iI_101, iI_130, iI_255, iI_256, iI_512, iI_1000, iI_1009, iI_2000, iI_2048, iI_32768, iI_2147483647, iI_add, iI_sub, iI_mul, iI_neg, iI_lt, iI_le, iI_eq, iI_in] at c
    omega
  · refine t_X4_side hp hp h1 h2 h1 h2 (by omega) hR hR ?_
    simp (disch := omega) only [zstJ_iI, zrdJ_iI, iI_m1, iI_0, iI_1, iI_2, iI_3, iI_4, iI_5, iI_6, iI_7, iI_8, iI_9, iI_10, iI_11, iI_12, iI_13, iI_16, iI_18, iI_20, iI_24, iI_31, iI_32, iI_33, iI_36, iI_48, iI_57, iI_59, iI_63, iI_64, iI_97, iI_100, iI_101, iI_130, iI_255, iI_256, iI_512, iI_1000, iI_1009, iI_2000, iI_2048, iI_32768, iI_2147483647, iI_add, iI_sub, iI_mul, iI_neg, iI_lt, iI_le, iI_eq, iI_in]
    rw [show ((m : Int)).toNat = m by omega]
    refine ⟨by omega, by omega, ?_⟩
    intro M1 g1
    have hm1 : M1.2 (a + 5) m = lI g := by rw [g1]; simp only [zwJ_2]; rw [if_neg (by omega), eg]
    refine ⟨by omega, by omega, ?_⟩
    intro M2 g2 v e
    rw [el, lI_min (by omega) (by omega) (by omega) (by omega)] at g1
    rw [hm1, lI_max (by omega) (by omega) (by omega) (by omega)] at g2
    subst e
    subst g1; subst g2
    refine h _ ((fz_wJ (by omega) (by omega)).tr (fz_wJ (by omega) (by omega))) ?_ ?_ ?_
    · intro i hi
      simp only [zwJ_2, zwJ_1]
      constructor
      · repeat rw [if_neg (by omega)]
      · repeat rw [if_neg (by omega)]
    · simp only [zwJ_2, zwJ_1]
      rw [if_neg (by omega), if_pos ⟨trivial, trivial⟩]
    · simp only [zwJ_2, zwJ_1]
      rw [if_pos ⟨trivial, trivial⟩]
theorem t_X0_measureBand {N a m : Nat} {p : Nat → Int} {M : zMem} {Q : zMem → Prop} (hN : 100 ≤ N) (hp : pOk p) (h1 : 1 ≤ m) (h2 : m < 64) (hR : RN p a m M)
    (hQ : ∀ M', fz (a + 4) (a + 5) M M' → (∀ i, i ≠ m → M'.2 (a + 4) i = M.2 (a + 4) i ∧ M'.2 (a + 5) i = M.2 (a + 5) i) → RD p a m M' → Q M') : f_X0_measureBand N a (iI m) M Q := by
  unfold f_X0_measureBand
  simp (disch := omega) only [zstJ_iI, iI_m1, iI_0, iI_1, iI_2, iI_3, iI_4, iI_5, iI_6, iI_7, iI_8, iI_9, iI_10, iI_11, iI_12, iI_13, iI_16, iI_18, iI_20, iI_24, iI_31, iI_32, iI_33, iI_36, iI_48, iI_57, iI_59, iI_63, iI_64, iI_97, iI_100, iI_101, iI_130, iI_255, iI_256, iI_512, iI_1000, iI_1009, iI_2000, iI_2048, iI_32768, iI_2147483647, iI_add, iI_sub, iI_mul, iI_neg, iI_lt, iI_le, iI_eq, iI_in]
  rw [show ((m : Int)).toNat = m by omega]
  refine ⟨by omega, ?_⟩
  intro M1 g1
  refine ⟨by omega, ?_⟩
  intro M2 g2
  have b1 := sd_bd hp hp (i := 1) h1 h2 h1 h2
  have b2 := sd_bd hp hp (i := 2) h1 h2 h1 h2
  have hf : fz (a + 4) (a + 5) M M2 := by subst g1; subst g2; exact (fz_wJ (by omega) (by omega)).tr (fz_wJ (by omega) (by omega))
  have ho : ∀ i, i ≠ m → M2.2 (a + 4) i = M.2 (a + 4) i ∧ M2.2 (a + 5) i = M.2 (a + 5) i := by
    intro i hi
    subst g1; subst g2
    simp only [zwJ_2, zwJ_1]
    constructor
    · repeat rw [if_neg (by omega)]
    · repeat rw [if_neg (by omega)]
  have e4 : M2.2 (a + 4) m = lI 0 := by subst g1; subst g2; simp only [zwJ_2]; rw [if_neg (by omega), if_pos ⟨trivial, trivial⟩]; rfl
  have e5 : M2.2 (a + 5) m = lI 0 := by subst g1; subst g2; simp only [zwJ_2]; rw [if_pos ⟨trivial, trivial⟩]; rfl
  obtain ⟨n, hn⟩ : ∃ n, N = n + 3 := ⟨N - 3, by omega⟩
  suffices hh : f_X0_measureBand_l16 N a (iI m) Q (n + 3) (iI ((1 : Nat) : Int)) M2 by rw [← hn] at hh; exact hh
  refine s_X0_measureBand hp h1 h2 (by decide) (by decide) (hR.fz hf (by omega)) (l := 0) (g := 0) (by decide) (by decide) e4 e5 ?_
  intro M3 hf3 ho3 e43 e53
  refine s_X0_measureBand hp h1 h2 (by decide) (by decide) ((hR.fz hf (by omega)).fz hf3 (by omega)) (mnI_bd (by decide) b1) (mxI_bd (by decide) b1) e43 e53 ?_
  intro M4 hf4 ho4 e44 e54
  show f_X0_measureBand_b16 N (f_X0_measureBand_l16 N a (iI m) Q n) a (iI m) (iI ((3 : Nat) : Int)) M4 Q
  unfold f_X0_measureBand_b16
  refine ⟨fun c => ?_, fun c => absurd ?_ c⟩
  · refine hQ M4 ((hf.tr hf3).tr hf4) ?_ ⟨e44, e54⟩
    intro i hi
    exact ⟨((ho4 i hi).1.trans (ho3 i hi).1).trans (ho i hi).1, ((ho4 i hi).2.trans (ho3 i hi).2).trans (ho i hi).2⟩
  · simp (disch := omega) only [iI_m1, iI_0, iI_1, iI_2, iI_3, iI_4, iI_5, iI_6, iI_7, iI_8, iI_9, iI_10, iI_11, iI_12, iI_13, iI_16, iI_18, iI_20, iI_24, iI_31, iI_32, iI_33, iI_36, iI_48, iI_57, iI_59, iI_63, iI_64, iI_97, iI_100, iI_101, iI_130, iI_255, iI_256, iI_512, iI_1000, iI_1009, iI_2000, iI_2048, iI_32768, iI_2147483647, iI_add, iI_sub, iI_mul, iI_neg, iI_lt, iI_le, iI_eq, iI_in]
    omega
