theorem iI_mn2 {x y : Int} {k : Int32 → Prop} (h1 : -1000000000 ≤ x) (h2 : x < 1000000000) (h3 : -1000000000 ≤ y) (h4 : y < 1000000000) (h : k (iI (mnI x y))) : (iI x ≤ iI y → k (iI x)) ∧ (¬ iI x ≤ iI y → k (iI y)) := by
  rw [iI_le (by omega) (by omega) (by omega) (by omega)]
  unfold mnI at h
  constructor
  · intro c; rw [if_neg (by omega)] at h; exact h
  · intro c; rw [if_pos (by omega)] at h; exact h
theorem iI_mx2 {x y : Int} {k : Int32 → Prop} (h1 : -1000000000 ≤ x) (h2 : x < 1000000000) (h3 : -1000000000 ≤ y) (h4 : y < 1000000000) (h : k (iI (mxI x y))) : (iI y ≤ iI x → k (iI x)) ∧ (¬ iI y ≤ iI x → k (iI y)) := by
  rw [iI_le (by omega) (by omega) (by omega) (by omega)]
  unfold mxI at h
  constructor
  · intro c; rw [if_neg (by omega)] at h; exact h
  · intro c; rw [if_pos (by omega)] at h; exact h
def ext (w x y : Int) : Int := if w = 0 then mnI x y else mxI x y
theorem ext_bd {w x y B : Int} (h1 : -B ≤ x ∧ x ≤ B) (h2 : -B ≤ y ∧ y ≤ B) : -B ≤ ext w x y ∧ ext w x y ≤ B := by
  unfold ext
  split
  · exact mnI_bd h1 h2
  · exact mxI_bd h1 h2
theorem s_X8_extreme {N a m ax i k : Nat} {w z : Int} {p : Nat → Int} {M : zMem} {Q : Int32 → zMem → Prop} (hA : RLd p a M) (h1 : 1 ≤ m) (h2 : m < 64) (hax : ax < 2) (hi : i < 4) (hw : w = 0 ∨ w = 1) (hz : -294912 ≤ z ∧ z ≤ 294912) (h : f_X8_extreme_l13 N (iI a) (iI m) (iI ax) (iI w) Q k (iI (ext w z (nd p m i ax))) (iI ((i + 1 : Nat) : Int)) M) : f_X8_extreme_l13 N (iI a) (iI m) (iI ax) (iI w) Q (k + 1) (iI z) (iI i) M := by
  show f_X8_extreme_b13 N (f_X8_extreme_l13 N (iI a) (iI m) (iI ax) (iI w) Q k) (iI a) (iI m) (iI ax) (iI w) (iI z) (iI i) M Q
  unfold f_X8_extreme_b13 f_X8_extreme_b57 f_X8_extreme_b52 f_X8_extreme_b59
  have b := nd_bd hA.2.1 (i := i) h1 h2 hax
  refine ⟨fun c => ?_, fun c => ?_⟩
  · simp (disch := omega) only [iI_m1, iI_0, iI_1, iI_2, iI_3, iI_4, iI_5, iI_6, iI_7, iI_8, iI_9, iI_10, iI_11, iI_12, iI_13, iI_16, iI_18, iI_20, iI_24, iI_31, iI_32, iI_33, iI_36, iI_48, iI_57, iI_59, iI_63, iI_64, iI_97, iI_100, iI_101, iI_130, iI_255, iI_256, iI_512, iI_1000, iI_1009, iI_2000, iI_2048, iI_32768, iI_2147483647, iI_add, iI_sub, iI_mul, iI_neg, iI_lt, iI_le, iI_eq, iI_in] at c
    omega
  · refine t_X8_at hA h1 h2 hi hax ?_
    refine ⟨fun c3 => ?_, fun c3 => ?_⟩
    · simp (disch := omega) only [iI_m1, iI_0, iI_1, iI_2, iI_3, iI_4, iI_5, iI_6, iI_7, iI_8, iI_9, iI_10, iI_11, iI_12, iI_13, iI_16, iI_18, iI_20, iI_24, iI_31, iI_32, iI_33, iI_36, iI_48, iI_57, iI_59, iI_63, iI_64, iI_97, iI_100, iI_101, iI_130, iI_255, iI_256, iI_512, iI_1000, iI_1009, iI_2000, iI_2048, iI_32768, iI_2147483647, iI_add, iI_sub, iI_mul, iI_neg, iI_lt, iI_le, iI_eq, iI_in] at c3
      subst c3
      refine iI_mn2 (k := fun s => ∀ v5 : Int32, v5 = iI i + 1 → f_X8_extreme_l13 N (iI a) (iI m) (iI ax) (iI 0) Q k s v5 M) (by omega) (by omega) (by omega) (by omega) ?_
      intro v e
      simp (disch := omega) only [iI_m1, iI_0, iI_1, iI_2, iI_3, iI_4, iI_5, iI_6, iI_7, iI_8, iI_9, iI_10, iI_11, iI_12, iI_13, iI_16, iI_18, iI_20, iI_24, iI_31, iI_32, iI_33, iI_36, iI_48, iI_57, iI_59, iI_63, iI_64, iI_97, iI_100, iI_101, iI_130, iI_255, iI_256, iI_512, iI_1000, iI_1009, iI_2000, iI_2048, iI_32768, iI_2147483647, iI_add, iI_sub, iI_mul, iI_neg, iI_lt, iI_le, iI_eq, iI_in] at e
      subst e
      exact h
    · simp (disch := omega) only [iI_m1, iI_0, iI_1, iI_2, iI_3, iI_4, iI_5, iI_6, iI_7, iI_8, iI_9, iI_10, iI_11, iI_12, iI_13, iI_16, iI_18, iI_20, iI_24, iI_31, iI_32, iI_33, iI_36, iI_48, iI_57, iI_59, iI_63, iI_64, iI_97, iI_100, iI_101, iI_130, iI_255, iI_256, iI_512, iI_1000, iI_1009, iI_2000, iI_2048, iI_32768, iI_2147483647, iI_add, iI_sub, iI_mul, iI_neg, iI_lt, iI_le, iI_eq, iI_in] at c3
      obtain rfl : w = 1 := by omega
      refine iI_mx2 (k := fun s => ∀ v5 : Int32, v5 = iI i + 1 → f_X8_extreme_l13 N (iI a) (iI m) (iI ax) (iI 1) Q k s v5 M) (by omega) (by omega) (by omega) (by omega) ?_
      intro v e
      simp (disch := omega) only [iI_m1, iI_0, iI_1, iI_2, iI_3, iI_4, iI_5, iI_6, iI_7, iI_8, iI_9, iI_10, iI_11, iI_12, iI_13, iI_16, iI_18, iI_20, iI_24, iI_31, iI_32, iI_33, iI_36, iI_48, iI_57, iI_59, iI_63, iI_64, iI_97, iI_100, iI_101, iI_130, iI_255, iI_256, iI_512, iI_1000, iI_1009, iI_2000, iI_2048, iI_32768, iI_2147483647, iI_add, iI_sub, iI_mul, iI_neg, iI_lt, iI_le, iI_eq, iI_in] at e
      subst e
      exact h
theorem t_X8_extreme {N a m ax : Nat} {w : Int} {p : Nat → Int} {M : zMem} {Q : Int32 → zMem → Prop} (hN : 100 ≤ N) (hA : RLd p a M) (h1 : 1 ≤ m) (h2 : m < 64) (hax : ax < 2) (hw : w = 0 ∨ w = 1) (hQ : Q (iI (if w = 0 then bn p m ax else bx p m ax)) M) : f_X8_extreme N (iI a) (iI m) (iI ax) (iI w) M Q := by
  unfold f_X8_extreme
  refine t_X8_at (i := 0) hA h1 h2 (by decide) hax ?_
  have b0 := nd_bd hA.2.1 (i := 0) h1 h2 hax
  have b1 := nd_bd hA.2.1 (i := 1) h1 h2 hax
  have b2 := nd_bd hA.2.1 (i := 2) h1 h2 hax
  have b3 := nd_bd hA.2.1 (i := 3) h1 h2 hax
  obtain ⟨n, hn⟩ : ∃ n, N = n + 4 := ⟨N - 4, by omega⟩
  suffices hh : f_X8_extreme_l13 N (iI a) (iI m) (iI ax) (iI w) Q (n + 4) (iI (nd p m 0 ax)) (iI ((1 : Nat) : Int)) M by rw [← hn] at hh; exact hh
  refine s_X8_extreme hA h1 h2 hax (by decide) hw b0 ?_
  refine s_X8_extreme hA h1 h2 hax (by decide) hw (ext_bd b0 b1) ?_
  refine s_X8_extreme hA h1 h2 hax (by decide) hw (ext_bd (ext_bd b0 b1) b2) ?_
  have e : ext w (ext w (ext w (nd p m 0 ax) (nd p m 1 ax)) (nd p m (1 + 1) ax)) (nd p m (1 + 1 + 1) ax) = if w = 0 then bn p m ax else bx p m ax := by
    unfold ext bn bx
    by_cases hw0 : w = 0
    · simp only [hw0, if_true]
    · simp only [if_neg hw0]
  rw [e]
  show f_X8_extreme_b13 N (f_X8_extreme_l13 N (iI a) (iI m) (iI ax) (iI w) Q n) (iI a) (iI m) (iI ax) (iI w) (iI (if w = 0 then bn p m ax else bx p m ax)) (iI ((4 : Nat) : Int)) M Q
  unfold f_X8_extreme_b13
  exact ⟨fun _ => hQ, fun c => absurd (by decide) c⟩
theorem s_X8_areBoxesApart {N a b m n ax k : Nat} {z : Int} {p q : Nat → Int} {M : zMem} {Q : Int32 → zMem → Prop} (hN : 100 ≤ N) (hA : RLd p a M) (hB : RLd q b M) (h1 : 1 ≤ m) (h2 : m < 64) (h3 : 1 ≤ n) (h4 : n < 64) (hax : ax < 2) (hz : z = 0 ∨ z = 1) (hy : (z = 1 ∨ bxA p m q n ax) → f_X8_areBoxesApart_l6 N (iI a) (iI m) (iI b) (iI n) Q k (iI 1) (iI ((ax + 1 : Nat) : Int)) M) (hn : ¬ (z = 1 ∨ bxA p m q n ax) → f_X8_areBoxesApart_l6 N (iI a) (iI m) (iI b) (iI n) Q k (iI 0) (iI ((ax + 1 : Nat) : Int)) M) : f_X8_areBoxesApart_l6 N (iI a) (iI m) (iI b) (iI n) Q (k + 1) (iI z) (iI ax) M := by
  show f_X8_areBoxesApart_b6 N (f_X8_areBoxesApart_l6 N (iI a) (iI m) (iI b) (iI n) Q k) (iI a) (iI m) (iI b) (iI n) (iI z) (iI ax) M Q
  unfold f_X8_areBoxesApart_b6 f_X8_areBoxesApart_b61 f_X8_areBoxesApart_b66
  have b1 := bx_bd hA.2.1 h1 h2 hax
  have b2 := bn_bd hA.2.1 h1 h2 hax
  have b3 := bx_bd hB.2.1 h3 h4 hax
  have b4 := bn_bd hB.2.1 h3 h4 hax
  refine ⟨fun c => ?_, fun c => ⟨fun c3 v1 e1 => ?_, fun c3 => ?_⟩⟩
  · simp (disch := omega) only [iI_m1, iI_0, iI_1, iI_2, iI_3, iI_4, iI_5, iI_6, iI_7, iI_8, iI_9, iI_10, iI_11, iI_12, iI_13, iI_16, iI_18, iI_20, iI_24, iI_31, iI_32, iI_33, iI_36, iI_48, iI_57, iI_59, iI_63, iI_64, iI_97, iI_100, iI_101, iI_130, iI_255, iI_256, iI_512, iI_1000, iI_1009, iI_2000, iI_2048, iI_32768, iI_2147483647, iI_add, iI_sub, iI_mul, iI_neg, iI_lt, iI_le, iI_eq, iI_in] at c
    omega
  · simp (disch := omega) only [iI_m1, iI_0, iI_1, iI_2, iI_3, iI_4, iI_5, iI_6, iI_7, iI_8, iI_9, iI_10, iI_11, iI_12, iI_13, iI_16, iI_18, iI_20, iI_24, iI_31, iI_32, iI_33, iI_36, iI_48, iI_57, iI_59, iI_63, iI_64, iI_97, iI_100, iI_101, iI_130, iI_255, iI_256, iI_512, iI_1000, iI_1009, iI_2000, iI_2048, iI_32768, iI_2147483647, iI_add, iI_sub, iI_mul, iI_neg, iI_lt, iI_le, iI_eq, iI_in] at c3
    simp (disch := omega) only [iI_m1, iI_0, iI_1, iI_2, iI_3, iI_4, iI_5, iI_6, iI_7, iI_8, iI_9, iI_10, iI_11, iI_12, iI_13, iI_16, iI_18, iI_20, iI_24, iI_31, iI_32, iI_33, iI_36, iI_48, iI_57, iI_59, iI_63, iI_64, iI_97, iI_100, iI_101, iI_130, iI_255, iI_256, iI_512, iI_1000, iI_1009, iI_2000, iI_2048, iI_32768, iI_2147483647, iI_add, iI_sub, iI_mul, iI_neg, iI_lt, iI_le, iI_eq, iI_in] at e1
    subst e1
    exact hy (Or.inl (by omega))
  · simp (disch := omega) only [iI_m1, iI_0, iI_1, iI_2, iI_3, iI_4, iI_5, iI_6, iI_7, iI_8, iI_9, iI_10, iI_11, iI_12, iI_13, iI_16, iI_18, iI_20, iI_24, iI_31, iI_32, iI_33, iI_36, iI_48, iI_57, iI_59, iI_63, iI_64, iI_97, iI_100, iI_101, iI_130, iI_255, iI_256, iI_512, iI_1000, iI_1009, iI_2000, iI_2048, iI_32768, iI_2147483647, iI_add, iI_sub, iI_mul, iI_neg, iI_lt, iI_le, iI_eq, iI_in] at c3
    refine t_X8_extreme (w := 1) hN hA h1 h2 hax (by decide) ?_
    refine t_X8_extreme (w := 0) hN hB h3 h4 hax (by decide) ?_
    rw [if_neg (by decide), if_pos rfl]
    refine ⟨fun c4 v1 e1 => ?_, fun c4 => ?_⟩
    · simp (disch := omega) only [iI_m1, iI_0, iI_1, iI_2, iI_3, iI_4, iI_5, iI_6, iI_7, iI_8, iI_9, iI_10, iI_11, iI_12, iI_13, iI_16, iI_18, iI_20, iI_24, iI_31, iI_32, iI_33, iI_36, iI_48, iI_57, iI_59, iI_63, iI_64, iI_97, iI_100, iI_101, iI_130, iI_255, iI_256, iI_512, iI_1000, iI_1009, iI_2000, iI_2048, iI_32768, iI_2147483647, iI_add, iI_sub, iI_mul, iI_neg, iI_lt, iI_le, iI_eq, iI_in] at c4
      simp (disch := omega) only [iI_m1, iI_0, iI_1, iI_2, iI_3, iI_4, iI_5, iI_6, iI_7, iI_8, iI_9, iI_10, iI_11, iI_12, iI_13, iI_16, iI_18, iI_20, iI_24, iI_31, iI_32, iI_33, iI_36, iI_48, iI_57, iI_59, iI_63, iI_64, iI_97, iI_100, iI_101, iI_130, iI_255, iI_256, iI_512, iI_1000, iI_1009, iI_2000, iI_2048, iI_32768, iI_2147483647, iI_add, iI_sub, iI_mul, iI_neg, iI_lt, iI_le, iI_eq, iI_in] at e1
      subst e1
      exact hy (Or.inr (Or.inl c4))
    · simp (disch := omega) only [iI_m1, iI_0, iI_1, iI_2, iI_3, iI_4, iI_5, iI_6, iI_7, iI_8, iI_9, iI_10, iI_11, iI_12, iI_13, iI_16, iI_18, iI_20, iI_24, iI_31, iI_32, iI_33, iI_36, iI_48, iI_57, iI_59, iI_63, iI_64, iI_97, iI_100, iI_101, iI_130, iI_255, iI_256, iI_512, iI_1000, iI_1009, iI_2000, iI_2048, iI_32768, iI_2147483647, iI_add, iI_sub, iI_mul, iI_neg, iI_lt, iI_le, iI_eq, iI_in] at c4
      refine t_X8_extreme (w := 1) hN hB h3 h4 hax (by decide) ?_
      refine t_X8_extreme (w := 0) hN hA h1 h2 hax (by decide) ?_
      rw [if_pos rfl, if_neg (by decide)]
      refine ⟨fun c5 v1 e1 => ?_, fun c5 v1 e1 => ?_⟩
      · simp (disch := omega) only [iI_m1, iI_0, iI_1, iI_2, iI_3, iI_4, iI_5, iI_6, iI_7, iI_8, iI_9, iI_10, iI_11, iI_12, iI_13, iI_16, iI_18, iI_20, iI_24, iI_31, iI_32, iI_33, iI_36, iI_48, iI_57, iI_59, iI_63, iI_64, iI_97, iI_100, iI_101, iI_130, iI_255, iI_256, iI_512, iI_1000, iI_1009, iI_2000, iI_2048, iI_32768, iI_2147483647, iI_add, iI_sub, iI_mul, iI_neg, iI_lt, iI_le, iI_eq, iI_in] at c5
        simp (disch := omega) only [iI_m1, iI_0, iI_1, iI_2, iI_3, iI_4, iI_5, iI_6, iI_7, iI_8, iI_9, iI_10, iI_11, iI_12, iI_13, iI_16, iI_18, iI_20, iI_24, iI_31, iI_32, iI_33, iI_36, iI_48, iI_57, iI_59, iI_63, iI_64, iI_97, iI_100, iI_101, iI_130, iI_255, iI_256, iI_512, iI_1000, iI_1009, iI_2000, iI_2048, iI_32768, iI_2147483647, iI_add, iI_sub, iI_mul, iI_neg, iI_lt, iI_le, iI_eq, iI_in] at e1
        subst e1
        exact hn (fun h => by rcases h with h | h | h <;> omega)
      · simp (disch := omega) only [iI_m1, iI_0, iI_1, iI_2, iI_3, iI_4, iI_5, iI_6, iI_7, iI_8, iI_9, iI_10, iI_11, iI_12, iI_13, iI_16, iI_18, iI_20, iI_24, iI_31, iI_32, iI_33, iI_36, iI_48, iI_57, iI_59, iI_63, iI_64, iI_97, iI_100, iI_101, iI_130, iI_255, iI_256, iI_512, iI_1000, iI_1009, iI_2000, iI_2048, iI_32768, iI_2147483647, iI_add, iI_sub, iI_mul, iI_neg, iI_lt, iI_le, iI_eq, iI_in] at c5
        simp (disch := omega) only [iI_m1, iI_0, iI_1, iI_2, iI_3, iI_4, iI_5, iI_6, iI_7, iI_8, iI_9, iI_10, iI_11, iI_12, iI_13, iI_16, iI_18, iI_20, iI_24, iI_31, iI_32, iI_33, iI_36, iI_48, iI_57, iI_59, iI_63, iI_64, iI_97, iI_100, iI_101, iI_130, iI_255, iI_256, iI_512, iI_1000, iI_1009, iI_2000, iI_2048, iI_32768, iI_2147483647, iI_add, iI_sub, iI_mul, iI_neg, iI_lt, iI_le, iI_eq, iI_in] at e1
        subst e1
        exact hy (Or.inr (Or.inr (by omega)))
theorem x_X8_areBoxesApart {N a b m n k : Nat} {z : Int} {M : zMem} {Q : Int32 → zMem → Prop} (hz : z = 0 ∨ z = 1) (hQ : Q (iI z) M) : f_X8_areBoxesApart_l6 N (iI a) (iI m) (iI b) (iI n) Q (k + 1) (iI z) (iI ((2 : Nat) : Int)) M := by
  show f_X8_areBoxesApart_b6 N (f_X8_areBoxesApart_l6 N (iI a) (iI m) (iI b) (iI n) Q k) (iI a) (iI m) (iI b) (iI n) (iI z) (iI ((2 : Nat) : Int)) M Q
  unfold f_X8_areBoxesApart_b6
  refine ⟨fun _ => ⟨?_, hQ⟩, fun c => absurd (by decide) c⟩
  rcases hz with rfl | rfl
  · exact zb_0
  · exact zb_1
theorem t_X8_areBoxesApart {N a b m n : Nat} {p q : Nat → Int} {M : zMem} {Q : Int32 → zMem → Prop} (hN : 100 ≤ N) (hA : RLd p a M) (hB : RLd q b M) (h1 : 1 ≤ m) (h2 : m < 64) (h3 : 1 ≤ n) (h4 : n < 64) (hQ1 : (bxA p m q n 0 ∨ bxA p m q n 1) → Q (iI 1) M) (hQ0 : ¬ (bxA p m q n 0 ∨ bxA p m q n 1) → Q (iI 0) M) : f_X8_areBoxesApart N (iI a) (iI m) (iI b) (iI n) M Q := by
  unfold f_X8_areBoxesApart
  obtain ⟨k, hk⟩ : ∃ k, N = k + 3 := ⟨N - 3, by omega⟩
  suffices hh : f_X8_areBoxesApart_l6 N (iI a) (iI m) (iI b) (iI n) Q (k + 3) (iI 0) (iI ((0 : Nat) : Int)) M by rw [← hk] at hh; exact hh
  refine s_X8_areBoxesApart hN hA hB h1 h2 h3 h4 (by decide) (by decide) (fun c => ?_) (fun c => ?_)
  · have c : bxA p m q n 0 := c.elim (fun h => absurd h (by decide)) id
    refine s_X8_areBoxesApart hN hA hB h1 h2 h3 h4 (by decide) (by decide) (fun c2 => ?_) (fun c2 => absurd (Or.inl rfl) c2)
    exact x_X8_areBoxesApart (by decide) (hQ1 (Or.inl c))
  · refine s_X8_areBoxesApart hN hA hB h1 h2 h3 h4 (by decide) (by decide) (fun c2 => ?_) (fun c2 => ?_)
    · exact x_X8_areBoxesApart (by decide) (hQ1 (Or.inr (c2.elim (fun h => absurd h (by decide)) id)))
    · exact x_X8_areBoxesApart (by decide) (hQ0 (fun h => h.elim (fun h => c (Or.inr h)) (fun h => c2 (Or.inr h))))
theorem t_X8_apartOf {N a b m n : Nat} {p q : Nat → Int} {M : zMem} {Q : Int32 → zMem → Prop} (hN : 100 ≤ N) (hA : RLd p a M) (hB : RLd q b M) (h1 : 1 ≤ m) (h2 : m < 64) (h3 : 1 ≤ n) (h4 : n < 64) (hQ : Q (iI (apt p m q n)) M) : f_X8_apartOf N (iI a) (iI m) (iI b) (iI n) M Q := by
  unfold f_X8_apartOf
  refine t_X8_areBoxesApart hN hA hB h1 h2 h3 h4 (fun k => ?_) (fun k => ?_)
  · refine ⟨fun c => absurd c (by decide), fun _ => ?_⟩
    rw [show apt p m q n = 1 from ifp_t k] at hQ
    exact hQ
  · refine ⟨fun _ => ?_, fun c => absurd rfl c⟩
    refine t_X8_clears hN hA hB h1 h2 h3 h4 (fun k3 => ?_) (fun k3 => ?_)
    · refine ⟨fun c => absurd c (by decide), fun _ => ?_⟩
      rw [show apt p m q n = 2 by unfold apt; rw [ifp_f k, ifp_t k3]] at hQ
      exact hQ
    · refine ⟨fun _ => ?_, fun c => absurd rfl c⟩
      refine t_X8_clears hN hB hA h3 h4 h1 h2 (fun k4 => ?_) (fun k4 => ?_)
      · refine ⟨fun c => absurd c (by decide), fun _ => ?_⟩
        rw [show apt p m q n = 3 by unfold apt; rw [ifp_f k, ifp_f k3, ifp_t k4]] at hQ
        exact hQ
      · refine ⟨fun _ => ?_, fun c => absurd rfl c⟩
        rw [show apt p m q n = 0 by unfold apt; rw [ifp_f k, ifp_f k3, ifp_f k4]] at hQ
        exact hQ
/-- how many of the first k meet f -/
noncomputable def cnt (f : Nat → Prop) : Nat → Int
  | 0 => 0
  | k + 1 => cnt f k + b2 (f k)
theorem cnt_in (f : Nat → Prop) (k : Nat) : 0 ≤ cnt f k ∧ cnt f k ≤ k := by
  induction k with
  | zero => exact ⟨Int.le_refl _, Int.le_refl _⟩
  | succ k ih =>
    have e : cnt f (k + 1) = cnt f k + b2 (f k) := rfl
    rcases b2_c (f k) with h | h <;> omega
theorem cnt_all (f : Nat → Prop) (k : Nat) : cnt f k = k ↔ ∀ j, j < k → f j := by
  induction k with
  | zero => exact ⟨fun _ j h => by omega, fun _ => rfl⟩
  | succ k ih =>
    have e : cnt f (k + 1) = cnt f k + b2 (f k) := rfl
    have i := cnt_in f k
    constructor
    · intro h j hj
      rcases b2_c (f k) with h2 | h2
      · by_cases hjk : j = k
        · rw [hjk]; exact h2.2
        · exact ih.mp (by omega) j (by omega)
      · omega
    · intro h
      have h1 := ih.mpr (fun j hj => h j (by omega))
      rw [e, h1, b2_t (h k (by omega))]
      omega
theorem l_X8_turnOf {N a b m n : Nat} {p q : Nat → Int} {M : zMem} {Q : Int32 → zMem → Prop} (hA : RLd p a M) (hB : RLd q b M) (h1 : 1 ≤ m) (h2 : m < 64) (h3 : 1 ≤ n) (h4 : n < 64) (hQ : Q (iI (trn p m q n)) M) : ∀ (f k : Nat), k ≤ 9 → 10 ≤ k + f → f_X8_turnOf_l9 N (iI a) (iI m) (iI b) (iI n) Q f (iI (cnt (fun j => 0 < crs p m (j / 3) q n (j % 3)) k)) (iI (cnt (fun j => crs p m (j / 3) q n (j % 3) < 0) k)) (iI k) M := by
  intro f
  induction f with
  | zero => intro k a1 a2; omega
  | succ f ih =>
    intro k a1 a2
    show f_X8_turnOf_b9 N (f_X8_turnOf_l9 N (iI a) (iI m) (iI b) (iI n) Q f) (iI a) (iI m) (iI b) (iI n) (iI (cnt (fun j => 0 < crs p m (j / 3) q n (j % 3)) k)) (iI (cnt (fun j => crs p m (j / 3) q n (j % 3) < 0) k)) (iI k) M Q
    unfold f_X8_turnOf_b9 f_X8_turnOf_b85 f_X8_turnOf_b102
    have i1 := cnt_in (fun j => 0 < crs p m (j / 3) q n (j % 3)) k
    have i2 := cnt_in (fun j => crs p m (j / 3) q n (j % 3) < 0) k
    refine ⟨fun c => ?_, fun c => ?_⟩
    · simp (disch := omega) only [iI_m1, iI_0, iI_1, iI_2, iI_3, iI_4, iI_5, iI_6, iI_7, iI_8, iI_9, iI_10, iI_11, iI_12, iI_13, iI_16, iI_18, iI_20, iI_24, iI_31, iI_32, iI_33, iI_36, iI_48, iI_57, iI_59, iI_63, iI_64, iI_97, iI_100, iI_101, iI_130, iI_255, iI_256, iI_512, iI_1000, iI_1009, iI_2000, iI_2048, iI_32768, iI_2147483647, iI_add, iI_sub, iI_mul, iI_neg, iI_lt, iI_le, iI_eq, iI_in] at c
      obtain rfl : k = 9 := by omega
      have g1 := cnt_all (fun j => 0 < crs p m (j / 3) q n (j % 3)) 9
      have g2 := cnt_all (fun j => crs p m (j / 3) q n (j % 3) < 0) 9
      refine ⟨fun c2 => ⟨fun c3 => ?_, fun c3 => ?_⟩, fun c2 => ?_⟩
      · simp (disch := omega) only [iI_m1, iI_0, iI_1, iI_2, iI_3, iI_4, iI_5, iI_6, iI_7, iI_8, iI_9, iI_10, iI_11, iI_12, iI_13, iI_16, iI_18, iI_20, iI_24, iI_31, iI_32, iI_33, iI_36, iI_48, iI_57, iI_59, iI_63, iI_64, iI_97, iI_100, iI_101, iI_130, iI_255, iI_256, iI_512, iI_1000, iI_1009, iI_2000, iI_2048, iI_32768, iI_2147483647, iI_add, iI_sub, iI_mul, iI_neg, iI_lt, iI_le, iI_eq, iI_in] at c2
        simp (disch := omega) only [iI_m1, iI_0, iI_1, iI_2, iI_3, iI_4, iI_5, iI_6, iI_7, iI_8, iI_9, iI_10, iI_11, iI_12, iI_13, iI_16, iI_18, iI_20, iI_24, iI_31, iI_32, iI_33, iI_36, iI_48, iI_57, iI_59, iI_63, iI_64, iI_97, iI_100, iI_101, iI_130, iI_255, iI_256, iI_512, iI_1000, iI_1009, iI_2000, iI_2048, iI_32768, iI_2147483647, iI_add, iI_sub, iI_mul, iI_neg, iI_lt, iI_le, iI_eq, iI_in] at c3
        rw [show trn p m q n = 0 by
          unfold trn
          rw [ifp_f, ifp_f]
          · intro hc
            exact c3 (g2.mpr (fun j hj => hc (j / 3) (j % 3) (by omega) (by omega)))
          · intro hc
            exact c2 (g1.mpr (fun j hj => hc (j / 3) (j % 3) (by omega) (by omega)))] at hQ
        exact hQ
      · simp (disch := omega) only [iI_m1, iI_0, iI_1, iI_2, iI_3, iI_4, iI_5, iI_6, iI_7, iI_8, iI_9, iI_10, iI_11, iI_12, iI_13, iI_16, iI_18, iI_20, iI_24, iI_31, iI_32, iI_33, iI_36, iI_48, iI_57, iI_59, iI_63, iI_64, iI_97, iI_100, iI_101, iI_130, iI_255, iI_256, iI_512, iI_1000, iI_1009, iI_2000, iI_2048, iI_32768, iI_2147483647, iI_add, iI_sub, iI_mul, iI_neg, iI_lt, iI_le, iI_eq, iI_in] at c2
        simp (disch := omega) only [iI_m1, iI_0, iI_1, iI_2, iI_3, iI_4, iI_5, iI_6, iI_7, iI_8, iI_9, iI_10, iI_11, iI_12, iI_13, iI_16, iI_18, iI_20, iI_24, iI_31, iI_32, iI_33, iI_36, iI_48, iI_57, iI_59, iI_63, iI_64, iI_97, iI_100, iI_101, iI_130, iI_255, iI_256, iI_512, iI_1000, iI_1009, iI_2000, iI_2048, iI_32768, iI_2147483647, iI_add, iI_sub, iI_mul, iI_neg, iI_lt, iI_le, iI_eq, iI_in] at c3
        have c4 := g2.mp c3
        rw [show trn p m q n = -1 by
          unfold trn
          rw [ifp_f, ifp_t]
          · intro i j hi hj
            have := c4 (3 * i + j) (by omega)
            rw [show (3 * i + j) / 3 = i by omega, show (3 * i + j) % 3 = j by omega] at this
            exact this
          · intro hc
            exact c2 (g1.mpr (fun j hj => hc (j / 3) (j % 3) (by omega) (by omega)))] at hQ
        exact hQ
      · simp (disch := omega) only [iI_m1, iI_0, iI_1, iI_2, iI_3, iI_4, iI_5, iI_6, iI_7, iI_8, iI_9, iI_10, iI_11, iI_12, iI_13, iI_16, iI_18, iI_20, iI_24, iI_31, iI_32, iI_33, iI_36, iI_48, iI_57, iI_59, iI_63, iI_64, iI_97, iI_100, iI_101, iI_130, iI_255, iI_256, iI_512, iI_1000, iI_1009, iI_2000, iI_2048, iI_32768, iI_2147483647, iI_add, iI_sub, iI_mul, iI_neg, iI_lt, iI_le, iI_eq, iI_in] at c2
        have c4 := g1.mp c2
        rw [show trn p m q n = 1 by
          unfold trn
          rw [ifp_t]
          intro i j hi hj
          have := c4 (3 * i + j) (by omega)
          rw [show (3 * i + j) / 3 = i by omega, show (3 * i + j) % 3 = j by omega] at this
          exact this] at hQ
        exact hQ
    · simp (disch := omega) only [iI_m1, iI_0, iI_1, iI_2, iI_3, iI_4, iI_5, iI_6, iI_7, iI_8, iI_9, iI_10, iI_11, iI_12, iI_13, iI_16, iI_18, iI_20, iI_24, iI_31, iI_32, iI_33, iI_36, iI_48, iI_57, iI_59, iI_63, iI_64, iI_97, iI_100, iI_101, iI_130, iI_255, iI_256, iI_512, iI_1000, iI_1009, iI_2000, iI_2048, iI_32768, iI_2147483647, iI_add, iI_sub, iI_mul, iI_neg, iI_lt, iI_le, iI_eq, iI_in] at c
      have e3 : iI (k : Int) / 3 = iI ((k / 3 : Nat) : Int) := by
        rw [iI_3, iI_div (by omega) (by omega) (by decide) (by decide), Int.tdiv_eq_ediv_of_nonneg (by omega)]
        rfl
      rw [e3, show iI (k : Int) - iI ((k / 3 : Nat) : Int) * 3 = iI ((k % 3 : Nat) : Int) by
        rw [iI_3, iI_mul, iI_sub]; congr 1; omega]
      have u := crs_bd hA.2.1 hB.2.1 (i := k / 3) (j := k % 3) h1 h2 h3 h4
      have a0 := nd_bd hA.2.1 (i := k / 3) (ax := 0) h1 h2 (by decide)
      have a1 := nd_bd hA.2.1 (i := k / 3) (ax := 1) h1 h2 (by decide)
      have b0 := nd_bd hA.2.1 (i := k / 3 + 1) (ax := 0) h1 h2 (by decide)
      have b1 := nd_bd hA.2.1 (i := k / 3 + 1) (ax := 1) h1 h2 (by decide)
      have c0 := nd_bd hB.2.1 (i := k % 3) (ax := 0) h3 h4 (by decide)
      have c1 := nd_bd hB.2.1 (i := k % 3) (ax := 1) h3 h4 (by decide)
      have d0 := nd_bd hB.2.1 (i := k % 3 + 1) (ax := 0) h3 h4 (by decide)
      have d1 := nd_bd hB.2.1 (i := k % 3 + 1) (ax := 1) h3 h4 (by decide)
      refine t_X8_stepOf (ax := 0) hA h1 h2 (by omega) (by decide) ?_
      refine t_X8_stepOf (ax := 1) hA h1 h2 (by omega) (by decide) ?_
      refine t_X8_stepOf (ax := 0) hB h3 h4 (by omega) (by decide) ?_
      refine t_X8_stepOf (ax := 1) hB h3 h4 (by omega) (by decide) ?_
      unfold f_X8_cross
      have ecr : (iI (nd p m (k / 3 + 1) 0 - nd p m (k / 3) 0)).toInt64 * (iI (nd q n (k % 3 + 1) 1 - nd q n (k % 3) 1)).toInt64 - (iI (nd p m (k / 3 + 1) 1 - nd p m (k / 3) 1)).toInt64 * (iI (nd q n (k % 3 + 1) 0 - nd q n (k % 3) 0)).toInt64 = lI (crs p m (k / 3) q n (k % 3)) := by
        rw [iI_l (by omega) (by omega), iI_l (by omega) (by omega), iI_l (by omega) (by omega), iI_l (by omega) (by omega), lI_mul, lI_mul, lI_sub]
        rfl
      rw [ecr]
      dsimp only
      rw [lI_0, lI_le (by omega) (by omega) (by decide) (by decide), lI_le (by decide) (by decide) (by omega) (by omega)]
      have hi := ih (k + 1) (by omega) (by omega)
      have f1 : cnt (fun j => 0 < crs p m (j / 3) q n (j % 3)) (k + 1) = cnt (fun j => 0 < crs p m (j / 3) q n (j % 3)) k + b2 (0 < crs p m (k / 3) q n (k % 3)) := rfl
      have f2 : cnt (fun j => crs p m (j / 3) q n (j % 3) < 0) (k + 1) = cnt (fun j => crs p m (j / 3) q n (j % 3) < 0) k + b2 (crs p m (k / 3) q n (k % 3) < 0) := rfl
      rw [f1, f2] at hi
      refine ⟨fun k1 v11 e11 => ⟨fun k2 v12 e12 v13 e13 => ?_, fun k2 v12 e12 v13 e13 => ?_⟩, fun k1 v11 e11 => ⟨fun k2 v12 e12 v13 e13 => ?_, fun k2 v12 e12 v13 e13 => ?_⟩⟩
      · rw [b2_f (by omega), b2_f (by omega)] at hi
        simp (disch := omega) only [iI_m1, iI_0, iI_1, iI_2, iI_3, iI_4, iI_5, iI_6, iI_7, iI_8, iI_9, iI_10, iI_11, iI_12, iI_13, iI_16, iI_18, iI_20, iI_24, iI_31, iI_32, iI_33, iI_36, iI_48, iI_57, iI_59, iI_63, iI_64, iI_97, iI_100, iI_101, iI_130, iI_255, iI_256, iI_512, iI_1000, iI_1009, iI_2000, iI_2048, iI_32768, iI_2147483647, iI_add, iI_sub, iI_mul, iI_neg, iI_lt, iI_le, iI_eq, iI_in] at e11
        simp (disch := omega) only [iI_m1, iI_0, iI_1, iI_2, iI_3, iI_4, iI_5, iI_6, iI_7, iI_8, iI_9, iI_10, iI_11, iI_12, iI_13, iI_16, iI_18, iI_20, iI_24, iI_31, iI_32, iI_33, iI_36, iI_48, iI_57, iI_59, iI_63, iI_64, iI_97, iI_100, iI_101, iI_130, iI_255, iI_256, iI_512, iI_1000, iI_1009, iI_2000, iI_2048, iI_32768, iI_2147483647, iI_add, iI_sub, iI_mul, iI_neg, iI_lt, iI_le, iI_eq, iI_in] at e12
        simp (disch := omega) only [iI_m1, iI_0, iI_1, iI_2, iI_3, iI_4, iI_5, iI_6, iI_7, iI_8, iI_9, iI_10, iI_11, iI_12, iI_13, iI_16, iI_18, iI_20, iI_24, iI_31, iI_32, iI_33, iI_36, iI_48, iI_57, iI_59, iI_63, iI_64, iI_97, iI_100, iI_101, iI_130, iI_255, iI_256, iI_512, iI_1000, iI_1009, iI_2000, iI_2048, iI_32768, iI_2147483647, iI_add, iI_sub, iI_mul, iI_neg, iI_lt, iI_le, iI_eq, iI_in] at e13
        subst e11; subst e12; subst e13
        exact hi
      · rw [b2_f (by omega), b2_t (by omega)] at hi
        simp (disch := omega) only [iI_m1, iI_0, iI_1, iI_2, iI_3, iI_4, iI_5, iI_6, iI_7, iI_8, iI_9, iI_10, iI_11, iI_12, iI_13, iI_16, iI_18, iI_20, iI_24, iI_31, iI_32, iI_33, iI_36, iI_48, iI_57, iI_59, iI_63, iI_64, iI_97, iI_100, iI_101, iI_130, iI_255, iI_256, iI_512, iI_1000, iI_1009, iI_2000, iI_2048, iI_32768, iI_2147483647, iI_add, iI_sub, iI_mul, iI_neg, iI_lt, iI_le, iI_eq, iI_in] at e11
        simp (disch := omega) only [iI_m1, iI_0, iI_1, iI_2, iI_3, iI_4, iI_5, iI_6, iI_7, iI_8, iI_9, iI_10, iI_11, iI_12, iI_13, iI_16, iI_18, iI_20, iI_24, iI_31, iI_32, iI_33, iI_36, iI_48, iI_57, iI_59, iI_63, iI_64, iI_97, iI_100, iI_101, iI_130, iI_255, iI_256, iI_512, iI_1000, iI_1009, iI_2000, iI_2048, iI_32768, iI_2147483647, iI_add, iI_sub, iI_mul, iI_neg, iI_lt, iI_le, iI_eq, iI_in] at e12
        simp (disch := omega) only [iI_m1, iI_0, iI_1, iI_2, iI_3, iI_4, iI_5, iI_6, iI_7, iI_8, iI_9, iI_10, iI_11, iI_12, iI_13, iI_16, iI_18, iI_20, iI_24, iI_31, iI_32, iI_33, iI_36, iI_48, iI_57, iI_59, iI_63, iI_64, iI_97, iI_100, iI_101, iI_130, iI_255, iI_256, iI_512, iI_1000, iI_1009, iI_2000, iI_2048, iI_32768, iI_2147483647, iI_add, iI_sub, iI_mul, iI_neg, iI_lt, iI_le, iI_eq, iI_in] at e13
        subst e11; subst e12; subst e13
        exact hi
      · rw [b2_t (by omega), b2_f (by omega)] at hi
        simp (disch := omega) only [iI_m1, iI_0, iI_1, iI_2, iI_3, iI_4, iI_5, iI_6, iI_7, iI_8, iI_9, iI_10, iI_11, iI_12, iI_13, iI_16, iI_18, iI_20, iI_24, iI_31, iI_32, iI_33, iI_36, iI_48, iI_57, iI_59, iI_63, iI_64, iI_97, iI_100, iI_101, iI_130, iI_255, iI_256, iI_512, iI_1000, iI_1009, iI_2000, iI_2048, iI_32768, iI_2147483647, iI_add, iI_sub, iI_mul, iI_neg, iI_lt, iI_le, iI_eq, iI_in] at e11
        simp (disch := omega) only [iI_m1, iI_0, iI_1, iI_2, iI_3, iI_4, iI_5, iI_6, iI_7, iI_8, iI_9, iI_10, iI_11, iI_12, iI_13, iI_16, iI_18, iI_20, iI_24, iI_31, iI_32, iI_33, iI_36, iI_48, iI_57, iI_59, iI_63, iI_64, iI_97, iI_100, iI_101, iI_130, iI_255, iI_256, iI_512, iI_1000, iI_1009, iI_2000, iI_2048, iI_32768, iI_2147483647, iI_add, iI_sub, iI_mul, iI_neg, iI_lt, iI_le, iI_eq, iI_in] at e12
        simp (disch := omega) only [iI_m1, iI_0, iI_1, iI_2, iI_3, iI_4, iI_5, iI_6, iI_7, iI_8, iI_9, iI_10, iI_11, iI_12, iI_13, iI_16, iI_18, iI_20, iI_24, iI_31, iI_32, iI_33, iI_36, iI_48, iI_57, iI_59, iI_63, iI_64, iI_97, iI_100, iI_101, iI_130, iI_255, iI_256, iI_512, iI_1000, iI_1009, iI_2000, iI_2048, iI_32768, iI_2147483647, iI_add, iI_sub, iI_mul, iI_neg, iI_lt, iI_le, iI_eq, iI_in] at e13
        subst e11; subst e12; subst e13
        exact hi
      · omega
theorem t_X8_turnOf {N a b m n : Nat} {p q : Nat → Int} {M : zMem} {Q : Int32 → zMem → Prop} (hN : 100 ≤ N) (hA : RLd p a M) (hB : RLd q b M) (h1 : 1 ≤ m) (h2 : m < 64) (h3 : 1 ≤ n) (h4 : n < 64) (hQ : Q (iI (trn p m q n)) M) : f_X8_turnOf N (iI a) (iI m) (iI b) (iI n) M Q := by
  unfold f_X8_turnOf
  exact l_X8_turnOf hA hB h1 h2 h3 h4 hQ N 0 (by omega) (by omega)
theorem t_X8_areCrossed {N a b m n : Nat} {p q : Nat → Int} {M : zMem} {Q : Int32 → zMem → Prop} (hN : 100 ≤ N) (hA : RLd p a M) (hB : RLd q b M) (h1 : 1 ≤ m) (h2 : m < 64) (h3 : 1 ≤ n) (h4 : n < 64) (hQ1 : cro p m q n → Q (iI 1) M) (hQ0 : ¬ cro p m q n → Q (iI 0) M) : f_X8_areCrossed N (iI a) (iI m) (iI b) (iI n) M Q := by
  unfold f_X8_areCrossed
  have ht := trn_in p m q n
  refine t_X8_turnOf hN hA hB h1 h2 h3 h4 ?_
  refine ⟨fun c => ?_, fun c => ?_⟩
  · simp (disch := omega) only [iI_m1, iI_0, iI_1, iI_2, iI_3, iI_4, iI_5, iI_6, iI_7, iI_8, iI_9, iI_10, iI_11, iI_12, iI_13, iI_16, iI_18, iI_20, iI_24, iI_31, iI_32, iI_33, iI_36, iI_48, iI_57, iI_59, iI_63, iI_64, iI_97, iI_100, iI_101, iI_130, iI_255, iI_256, iI_512, iI_1000, iI_1009, iI_2000, iI_2048, iI_32768, iI_2147483647, iI_add, iI_sub, iI_mul, iI_neg, iI_lt, iI_le, iI_eq, iI_in] at c
    exact hQ0 (fun h => h.1 c)
  · simp (disch := omega) only [iI_m1, iI_0, iI_1, iI_2, iI_3, iI_4, iI_5, iI_6, iI_7, iI_8, iI_9, iI_10, iI_11, iI_12, iI_13, iI_16, iI_18, iI_20, iI_24, iI_31, iI_32, iI_33, iI_36, iI_48, iI_57, iI_59, iI_63, iI_64, iI_97, iI_100, iI_101, iI_130, iI_255, iI_256, iI_512, iI_1000, iI_1009, iI_2000, iI_2048, iI_32768, iI_2147483647, iI_add, iI_sub, iI_mul, iI_neg, iI_lt, iI_le, iI_eq, iI_in] at c
    refine t_X8_isAcross hN hA hB h1 h2 h3 h4 (fun k => ?_) (fun k => ?_)
    · refine ⟨fun c => absurd c (by decide), fun _ => ?_⟩
      refine t_X8_isAcross hN hB hA h3 h4 h1 h2 (fun k2 => ?_) (fun k2 => ?_)
      · exact ⟨fun c => absurd c (by decide), fun _ => hQ1 ⟨c, k, k2⟩⟩
      · exact ⟨fun _ => hQ0 (fun h => k2 h.2.2), fun c => absurd rfl c⟩
    · exact ⟨fun _ => hQ0 (fun h => k h.2.1), fun c => absurd rfl c⟩
