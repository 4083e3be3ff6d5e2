/-! ===== all nodes of an arc anew ===== -/
theorem l_X0_halveAll_60 {N a : Nat} {p : Nat → Int} {Q : zMem → Prop} (hN : 100 ≤ N) (hp : pOk p) : ∀ (n x : Nat) (M : zMem), 1 ≤ x → x ≤ 64 → 65 ≤ x + n → RT p a M → (∀ m, 1 ≤ m → m < 64 → RN p a m M) → (∀ m ax, 1 ≤ m → m < x → ax < 2 → RB p a m ax M) → (∀ m, 1 ≤ m → m < x → RD p a m M) → (∀ M', fz (a + 3) (a + 5) M M' → RA p a M' → Q M') → f_X0_halveAll_l60 N a Q n (iI x) M := by
  intro n
  induction n with
  | zero => intro x M h1 h2 h3; omega
  | succ n ih =>
    intro x M h1 h2 h3 hT hNn hB hD hQ
    show f_X0_halveAll_b60 N (f_X0_halveAll_l60 N a Q n) a (iI x) M Q
    unfold f_X0_halveAll_b60
    refine ⟨fun c => ?_, fun c => ?_⟩
    · simp (disch := omega) only [iI_m1, iI_0, iI_1, iI_2, iI_3, iI_4, iI_5, iI_6, iI_7, iI_8, iI_9, iI_10, iI_11, iI_12, iI_13, iI_16, iI_18, iI_20, iI_24, iI_31, iI_32, iI_33, iI_36, iI_48, iI_57, iI_59, iI_63, iI_64, iI_97, iI_100, iI_101, iI_130, iI_255, iI_256, iI_512, iI_1000, iI_1009, iI_2000, iI_2048, iI_32768, iI_2147483647, iI_add, iI_sub, iI_mul, iI_neg, iI_lt, iI_le, iI_eq, iI_in] at c
      exact hQ M fz.rf ⟨hp, hT, hNn, fun m ax a1 a2 a3 => hB m ax a1 (by omega) a3, fun m a1 a2 => hD m a1 (by omega)⟩
    · simp (disch := omega) only [iI_m1, iI_0, iI_1, iI_2, iI_3, iI_4, iI_5, iI_6, iI_7, iI_8, iI_9, iI_10, iI_11, iI_12, iI_13, iI_16, iI_18, iI_20, iI_24, iI_31, iI_32, iI_33, iI_36, iI_48, iI_57, iI_59, iI_63, iI_64, iI_97, iI_100, iI_101, iI_130, iI_255, iI_256, iI_512, iI_1000, iI_1009, iI_2000, iI_2048, iI_32768, iI_2147483647, iI_add, iI_sub, iI_mul, iI_neg, iI_lt, iI_le, iI_eq, iI_in] at c
      refine t_X0_measureBox (ax := 0) hN hp h1 (by omega) (by decide) (hNn x h1 (by omega)) ?_
      intro M1 f1 o1 r1
      refine t_X0_measureBox (ax := 1) hN hp h1 (by omega) (by decide) ((hNn x h1 (by omega)).fz f1 (by omega)) ?_
      intro M2 f2 o2 r2
      refine t_X0_measureBand hN hp h1 (by omega) (((hNn x h1 (by omega)).fz f1 (by omega)).fz f2 (by omega)) ?_
      intro M3 f3 o3 r3 v e
      simp (disch := omega) only [iI_m1, iI_0, iI_1, iI_2, iI_3, iI_4, iI_5, iI_6, iI_7, iI_8, iI_9, iI_10, iI_11, iI_12, iI_13, iI_16, iI_18, iI_20, iI_24, iI_31, iI_32, iI_33, iI_36, iI_48, iI_57, iI_59, iI_63, iI_64, iI_97, iI_100, iI_101, iI_130, iI_255, iI_256, iI_512, iI_1000, iI_1009, iI_2000, iI_2048, iI_32768, iI_2147483647, iI_add, iI_sub, iI_mul, iI_neg, iI_lt, iI_le, iI_eq, iI_in] at e
      subst e
      have f13 : fz (a + 3) (a + 5) M M3 := ((f1.wide (by omega) (by omega)).tr (f2.wide (by omega) (by omega))).tr (f3.wide (by omega) (by omega))
      have hB2 : ∀ m ax, 1 ≤ m → m < x + 1 → ax < 2 → RB p a m ax M2 := by
        intro m ax a1 a2 a3
        by_cases hm : m = x
        · subst hm
          rcases (show ax = 0 ∨ ax = 1 by omega) with rfl | rfl
          · exact ⟨(o2 _ (by omega)).trans r1.1, (o2 _ (by omega)).trans r1.2⟩
          · exact r2
        · have hb := hB m ax a1 (by omega) a3
          exact ⟨((o2 _ (by omega)).trans (o1 _ (by omega))).trans hb.1, ((o2 _ (by omega)).trans (o1 _ (by omega))).trans hb.2⟩
      refine ih (x + 1) M3 (by omega) (by omega) (by omega) (hT.fz f13 (by omega)) (fun m a1 a2 => (hNn m a1 a2).fz f13 (by omega)) (fun m ax a1 a2 a3 => (hB2 m ax a1 a2 a3).fz f3 (by omega)) ?_ (fun M' hf hA => hQ M' (f13.tr hf) hA)
      intro m a1 a2
      by_cases hm : m = x
      · subst hm; exact r3
      · have hd := ((hD m a1 (by omega)).fz f1 (by omega) (by omega)).fz f2 (by omega) (by omega)
        exact ⟨(o3 m hm).1.trans hd.1, (o3 m hm).2.trans hd.2⟩
theorem l_X0_halveAll_34 {N a : Nat} {p : Nat → Int} {Q : zMem → Prop} (hN : 100 ≤ N) (hp : pOk p) : ∀ (n x : Nat) (M : zMem), 1 ≤ x → x ≤ 32 → 33 ≤ x + n → RT p a M → (∀ m, 1 ≤ m → m < 2 * x → RN p a m M) → (∀ M', fz (a + 2) (a + 5) M M' → RA p a M' → Q M') → f_X0_halveAll_l34 N a Q n (iI x) M := by
  intro n
  induction n with
  | zero => intro x M h1 h2 h3; omega
  | succ n ih =>
    intro x M h1 h2 h3 hT hNn hQ
    show f_X0_halveAll_b34 N (f_X0_halveAll_l34 N a Q n) a (iI x) M Q
    unfold f_X0_halveAll_b34
    refine ⟨fun c => ?_, fun c => ?_⟩
    · simp (disch := omega) only [iI_m1, iI_0, iI_1, iI_2, iI_3, iI_4, iI_5, iI_6, iI_7, iI_8, iI_9, iI_10, iI_11, iI_12, iI_13, iI_16, iI_18, iI_20, iI_24, iI_31, iI_32, iI_33, iI_36, iI_48, iI_57, iI_59, iI_63, iI_64, iI_97, iI_100, iI_101, iI_130, iI_255, iI_256, iI_512, iI_1000, iI_1009, iI_2000, iI_2048, iI_32768, iI_2147483647, iI_add, iI_sub, iI_mul, iI_neg, iI_lt, iI_le, iI_eq, iI_in] at c
      exact l_X0_halveAll_60 hN hp N 1 M (by omega) (by omega) (by omega) hT (fun m a1 a2 => hNn m a1 (by omega)) (fun m ax a1 a2 => by omega) (fun m a1 a2 => by omega) (fun M' hf hA => hQ M' (hf.wide (by omega) (by omega)) hA)
    · simp (disch := omega) only [iI_m1, iI_0, iI_1, iI_2, iI_3, iI_4, iI_5, iI_6, iI_7, iI_8, iI_9, iI_10, iI_11, iI_12, iI_13, iI_16, iI_18, iI_20, iI_24, iI_31, iI_32, iI_33, iI_36, iI_48, iI_57, iI_59, iI_63, iI_64, iI_97, iI_100, iI_101, iI_130, iI_255, iI_256, iI_512, iI_1000, iI_1009, iI_2000, iI_2048, iI_32768, iI_2147483647, iI_add, iI_sub, iI_mul, iI_neg, iI_lt, iI_le, iI_eq, iI_in] at c
      refine t_X0_halve (ax := 0) hp h1 (by omega) (by decide) (hNn x h1 (by omega)) ?_
      intro M1 f1 o1 r1
      have hx1 : RN p a x M1 := fun i ax hi ha => (o1 _ (by omega)).trans (hNn x h1 (by omega) i ax hi ha)
      refine t_X0_halve (ax := 1) hp h1 (by omega) (by decide) hx1 ?_
      intro M2 f2 o2 r2 v e
      simp (disch := omega) only [iI_m1, iI_0, iI_1, iI_2, iI_3, iI_4, iI_5, iI_6, iI_7, iI_8, iI_9, iI_10, iI_11, iI_12, iI_13, iI_16, iI_18, iI_20, iI_24, iI_31, iI_32, iI_33, iI_36, iI_48, iI_57, iI_59, iI_63, iI_64, iI_97, iI_100, iI_101, iI_130, iI_255, iI_256, iI_512, iI_1000, iI_1009, iI_2000, iI_2048, iI_32768, iI_2147483647, iI_add, iI_sub, iI_mul, iI_neg, iI_lt, iI_le, iI_eq, iI_in] at e
      subst e
      have f12 : fz (a + 2) (a + 5) M M2 := (f1.wide (by omega) (by omega)).tr (f2.wide (by omega) (by omega))
      refine ih (x + 1) M2 (by omega) (by omega) (by omega) (hT.fz f12 (by omega)) ?_ (fun M' hf hA => hQ M' (f12.tr hf) hA)
      intro m a1 a2 i ax hi ha
      by_cases hm : m < 2 * x
      · exact ((o2 _ (by omega)).trans (o1 _ (by omega))).trans (hNn m a1 hm i ax hi ha)
      · rcases (show m = 2 * x ∨ m = 2 * x + 1 by omega) with rfl | rfl
        · rcases (show ax = 0 ∨ ax = 1 by omega) with rfl | rfl
          · exact (o2 _ (by omega)).trans (r1 i hi).1
          · exact (r2 i hi).1
        · rcases (show ax = 0 ∨ ax = 1 by omega) with rfl | rfl
          · exact (o2 _ (by omega)).trans (r1 i hi).2
          · exact (r2 i hi).2
theorem l_X0_halveAll_2 {N a : Nat} {p : Nat → Int} {Q : zMem → Prop} (hN : 100 ≤ N) (hp : pOk p) : ∀ (n k : Nat) (M : zMem), k ≤ 8 → 9 ≤ k + n → RT p a M → (∀ j, j < k → M.1 (a + 2) (8 + j) = iI (32768 * p j)) → (∀ M', fz (a + 2) (a + 5) M M' → RA p a M' → Q M') → f_X0_halveAll_l2 N a Q n (iI k) M := by
  intro n
  induction n with
  | zero => intro k M h1 h2; omega
  | succ n ih =>
    intro k M h1 h2 hT hK hQ
    show f_X0_halveAll_b2 N (f_X0_halveAll_l2 N a Q n) a (iI k) M Q
    unfold f_X0_halveAll_b2
    refine ⟨fun c => ?_, fun c => ?_⟩
    · simp (disch := omega) only [iI_m1, iI_0, iI_1, iI_2, iI_3, iI_4, iI_5, iI_6, iI_7, iI_8, iI_9, iI_10, iI_11, iI_12, iI_13, iI_16, iI_18, iI_20, iI_24, iI_31, iI_32, iI_33, iI_36, iI_48, iI_57, iI_59, iI_63, iI_64, iI_97, iI_100, iI_101, iI_130, iI_255, iI_256, iI_512, iI_1000, iI_1009, iI_2000, iI_2048, iI_32768, iI_2147483647, iI_add, iI_sub, iI_mul, iI_neg, iI_lt, iI_le, iI_eq, iI_in] at c
      refine l_X0_halveAll_34 hN hp N 1 M (by omega) (by omega) (by omega) hT ?_ hQ
      intro m a1 a2 i ax hi ha
      obtain rfl : m = 1 := by omega
      rw [nd_root p hi, ← hK (2 * i + ax) (by omega), show 8 * 1 + 2 * i + ax = 8 + (2 * i + ax) by omega]
    · simp (disch := omega) only [iI_m1, iI_0, iI_1, iI_2, iI_3, iI_4, iI_5, iI_6, iI_7, iI_8, iI_9, iI_10, iI_11, iI_12, iI_13, iI_16, iI_18, iI_20, iI_24, iI_31, iI_32, iI_33, iI_36, iI_48, iI_57, iI_59, iI_63, iI_64, iI_97, iI_100, iI_101, iI_130, iI_255, iI_256, iI_512, iI_1000, iI_1009, iI_2000, iI_2048, iI_32768, iI_2147483647, iI_add, iI_sub, iI_mul, iI_neg, iI_lt, iI_le, iI_eq, iI_in] at c
      simp (disch := omega) only [zrd_iI, zst_iI, iI_m1, iI_0, iI_1, iI_2, iI_3, iI_4, iI_5, iI_6, iI_7, iI_8, iI_9, iI_10, iI_11, iI_12, iI_13, iI_16, iI_18, iI_20, iI_24, iI_31, iI_32, iI_33, iI_36, iI_48, iI_57, iI_59, iI_63, iI_64, iI_97, iI_100, iI_101, iI_130, iI_255, iI_256, iI_512, iI_1000, iI_1009, iI_2000, iI_2048, iI_32768, iI_2147483647, iI_add, iI_sub, iI_mul, iI_neg, iI_lt, iI_le, iI_eq, iI_in]
      refine ⟨by omega, by omega, ?_⟩
      intro M1 g1 v e
      subst e
      rw [show ((k : Int)).toNat = k by omega, show (8 + (k : Int)).toNat = 8 + k by omega, hT k (by omega), iI_mul] at g1
      have hf : fz (a + 2) (a + 5) M M1 := by subst g1; exact fz_wI (by omega) (by omega)
      refine ih (k + 1) M1 (by omega) (by omega) (hT.fz hf (by omega)) ?_ (fun M' hf' hA => hQ M' (hf.tr hf') hA)
      intro j hj
      subst g1
      simp only [zwI_1, true_and]
      by_cases hjk : j = k
      · subst hjk
        rw [if_pos rfl, Int.mul_comm]
      · rw [if_neg (by omega)]
        exact hK j (by omega)
theorem t_X0_halveAll {N a : Nat} {p : Nat → Int} {M : zMem} {Q : zMem → Prop} (hN : 100 ≤ N) (hp : pOk p) (hT : RT p a M) (hQ : ∀ M', fz (a + 2) (a + 5) M M' → RA p a M' → Q M') : f_X0_halveAll N a M Q := by
  unfold f_X0_halveAll
  exact l_X0_halveAll_2 hN hp N 0 M (by omega) (by omega) hT (fun j hj => by omega) hQ
theorem cl_iI0 : (0 : Int32).toNatClampNeg = 0 := by decide
theorem cl_iI8 : (8 : Int32).toNatClampNeg = 8 := by decide
theorem t_X0_takes {N a b f : Nat} {p : Nat → Int} {M : zMem} {Q : zMem → Prop} (hN : 100 ≤ N) (hp : pOk p) (hb : b ≠ a + 1) (hf : f + 8 ≤ zln b) (hl : f ≤ 4096) (hT : ∀ k, k < 8 → M.1 b (f + k) = iI (p k)) (hQ : ∀ M', fz (a + 1) (a + 5) M M' → RA p a M' → Q M') : f_X0_takes N a b (iI f) M Q := by
  unfold f_X0_takes
  rw [cl_iI0, cl_iI8, iI_cl (by omega) (by omega), show ((f : Int)).toNat = f by omega]
  refine ⟨?_, by decide, by decide, hf, by decide, ?_⟩
  · simp (disch := omega) only [iI_m1, iI_0, iI_1, iI_2, iI_3, iI_4, iI_5, iI_6, iI_7, iI_8, iI_9, iI_10, iI_11, iI_12, iI_13, iI_16, iI_18, iI_20, iI_24, iI_31, iI_32, iI_33, iI_36, iI_48, iI_57, iI_59, iI_63, iI_64, iI_97, iI_100, iI_101, iI_130, iI_255, iI_256, iI_512, iI_1000, iI_1009, iI_2000, iI_2048, iI_32768, iI_2147483647, iI_add, iI_sub, iI_mul, iI_neg, iI_lt, iI_le, iI_eq, iI_in]
    omega
  · intro M1 g1
    have hf1 : fz (a + 1) (a + 5) M M1 := by subst g1; exact fz_cp (by omega) (by omega)
    refine t_X0_halveAll hN hp ?_ (fun M' hf' hA => hQ M' (hf1.tr (hf'.wide (by omega) (by omega))) hA)
    intro k hk
    subst g1
    rw [zcp_1, if_pos rfl, if_pos ⟨by omega, by omega⟩, ← hT k hk]
    congr 1
/-! ===== shifts and turns of an arc ===== -/
theorem t_X7_isCoordinate {N : Nat} {z : Int} {M : zMem} {Q : Int32 → zMem → Prop} (h1 : -9223372036854775808 ≤ z) (h2 : z < 9223372036854775808) (hy : -9 ≤ z ∧ z ≤ 9 → Q (iI 1) M) (hn : ¬ (-9 ≤ z ∧ z ≤ 9) → Q (iI 0) M) : f_X7_isCoordinate N (lI z) M Q := by
  unfold f_X7_isCoordinate
  rw [show (-9 : Int64) = lI (-9) from rfl, show (9 : Int64) = lI 9 from rfl, lI_lt h1 h2 (by decide) (by decide), lI_lt (by decide) (by decide) h1 h2]
  refine ⟨fun c => hn (by omega), fun c => ⟨fun c2 => hn (by omega), fun c2 => hy (by omega)⟩⟩
def cSh (p : Nat → Int) (dx dy : Int) (j : Nat) : Prop := ∀ i, i < j → (-9 ≤ p (2 * i) + dx ∧ p (2 * i) + dx ≤ 9) ∧ (-9 ≤ p (2 * i + 1) + dy ∧ p (2 * i + 1) + dy ≤ 9)
theorem l_X0_canShift {N a : Nat} {p : Nat → Int} {dx dy : Int} {M : zMem} {Q : Int32 → zMem → Prop} (hp : pOk p) (hT : RT p a M) (hx : -2147483648 ≤ dx ∧ dx < 2147483648) (hy : -2147483648 ≤ dy ∧ dy < 2147483648) (hQ1 : cSh p dx dy 4 → Q (iI 1) M) (hQ0 : ¬ cSh p dx dy 4 → Q (iI 0) M) : ∀ (n j : Nat), j ≤ 4 → 5 ≤ j + n → cSh p dx dy j → f_X0_canShift_l2 N a (iI dx) (iI dy) Q n (iI j) M := by
  intro n
  induction n with
  | zero => intro j h1 h2; omega
  | succ n ih =>
    intro j h1 h2 hc
    show f_X0_canShift_b2 N (f_X0_canShift_l2 N a (iI dx) (iI dy) Q n) a (iI dx) (iI dy) (iI j) M Q
    unfold f_X0_canShift_b2
    refine ⟨fun c => ?_, fun c => ?_⟩
    · simp (disch := omega) only [iI_m1, iI_0, iI_1, iI_2, iI_3, iI_4, iI_5, iI_6, iI_7, iI_8, iI_9, iI_10, iI_11, iI_12, iI_13, iI_16, iI_18, iI_20, iI_24, iI_31, iI_32, iI_33, iI_36, iI_48, iI_57, iI_59, iI_63, iI_64, iI_97, iI_100, iI_101, iI_130, iI_255, iI_256, iI_512, iI_1000, iI_1009, iI_2000, iI_2048, iI_32768, iI_2147483647, iI_add, iI_sub, iI_mul, iI_neg, iI_lt, iI_le, iI_eq, iI_in] at c
      obtain rfl : j = 4 := by omega
      exact hQ1 hc
    · simp (disch := omega) only [iI_m1, iI_0, iI_1, iI_2, iI_3, iI_4, iI_5, iI_6, iI_7, iI_8, iI_9, iI_10, iI_11, iI_12, iI_13, iI_16, iI_18, iI_20, iI_24, iI_31, iI_32, iI_33, iI_36, iI_48, iI_57, iI_59, iI_63, iI_64, iI_97, iI_100, iI_101, iI_130, iI_255, iI_256, iI_512, iI_1000, iI_1009, iI_2000, iI_2048, iI_32768, iI_2147483647, iI_add, iI_sub, iI_mul, iI_neg, iI_lt, iI_le, iI_eq, iI_in] at c
      have b0 := hp (2 * j) (by omega)
      have b1 := hp (2 * j + 1) (by omega)
      simp (disch := omega) only [zrd_iI, iI_m1, iI_0, iI_1, iI_2, iI_3, iI_4, iI_5, iI_6, iI_7, iI_8, iI_9, iI_10, iI_11, iI_12, iI_13, iI_16, iI_18, iI_20, iI_24, iI_31, iI_32, iI_33, iI_36, iI_48, iI_57, iI_59, iI_63, iI_64, iI_97, iI_100, iI_101, iI_130, iI_255, iI_256, iI_512, iI_1000, iI_1009, iI_2000, iI_2048, iI_32768, iI_2147483647, iI_add, iI_sub, iI_mul, iI_neg, iI_lt, iI_le, iI_eq, iI_in]
      rw [show (2 * (j : Int)).toNat = 2 * j by omega, show (2 * (j : Int) + 1).toNat = 2 * j + 1 by omega, hT (2 * j) (by omega), iI_l (by omega) (by omega), iI_l hx.1 hx.2, lI_add]
      refine ⟨by omega, ?_⟩
      refine t_X7_isCoordinate (by omega) (by omega) (fun k => ?_) (fun k => ?_)
      · refine ⟨fun e => absurd e (by decide), fun _ => ⟨by omega, ?_⟩⟩
        rw [hT (2 * j + 1) (by omega), iI_l (by omega) (by omega), iI_l hy.1 hy.2, lI_add]
        refine t_X7_isCoordinate (by omega) (by omega) (fun k2 => ?_) (fun k2 => ?_)
        · refine ⟨fun _ v e => ?_, fun e => absurd e (by decide)⟩
          subst e
          refine ih (j + 1) (by omega) (by omega) ?_
          intro i hi
          by_cases hij : i = j
          · subst hij; exact ⟨k, k2⟩
          · exact hc i (by omega)
        · exact ⟨fun e => absurd rfl e, fun _ => hQ0 (fun q => k2 (q j (by omega)).2)⟩
      · exact ⟨fun _ => hQ0 (fun q => k (q j (by omega)).1), fun e => absurd rfl e⟩
theorem t_X0_canShift {N a : Nat} {p : Nat → Int} {dx dy : Int} {M : zMem} {Q : Int32 → zMem → Prop} (hN : 100 ≤ N) (hp : pOk p) (hT : RT p a M) (hx : -2147483648 ≤ dx ∧ dx < 2147483648) (hy : -2147483648 ≤ dy ∧ dy < 2147483648) (hQ1 : cSh p dx dy 4 → Q (iI 1) M) (hQ0 : ¬ cSh p dx dy 4 → Q (iI 0) M) : f_X0_canShift N a (iI dx) (iI dy) M Q := by
  unfold f_X0_canShift
  exact l_X0_canShift hp hT hx hy hQ1 hQ0 N 0 (by omega) (by omega) (fun i hi => by omega)
def pSh (p : Nat → Int) (dx dy : Int) : Nat → Int := fun k => p k + (if k % 2 = 0 then dx else dy)
theorem pSh_ok {p : Nat → Int} {dx dy : Int} (h : cSh p dx dy 4) : pOk (pSh p dx dy) := by
  intro k hk
  unfold pSh
  have := h (k / 2) (by omega)
  by_cases h2 : k % 2 = 0
  · rw [if_pos h2]
    rw [show 2 * (k / 2) = k by omega] at this
    exact this.1
  · rw [if_neg h2]
    rw [show 2 * (k / 2) + 1 = k by omega] at this
    exact this.2
theorem l_X0_shiftAll {N a : Nat} {p : Nat → Int} {dx dy : Int} {Q : zMem → Prop} (hN : 100 ≤ N) (hc : cSh p dx dy 4) : ∀ (n j : Nat) (M : zMem), j ≤ 4 → 5 ≤ j + n → (∀ k, k < 2 * j → M.1 (a + 1) k = iI (pSh p dx dy k)) → (∀ k, 2 * j ≤ k → k < 8 → M.1 (a + 1) k = iI (p k)) → (∀ M', fz (a + 1) (a + 5) M M' → RA (pSh p dx dy) a M' → Q M') → f_X0_shiftAll_l2 N a (iI dx) (iI dy) Q n (iI j) M := by
  intro n
  induction n with
  | zero => intro j M h1 h2; omega
  | succ n ih =>
    intro j M h1 h2 hd hr hQ
    show f_X0_shiftAll_b2 N (f_X0_shiftAll_l2 N a (iI dx) (iI dy) Q n) a (iI dx) (iI dy) (iI j) M Q
    unfold f_X0_shiftAll_b2
    refine ⟨fun c => ?_, fun c => ?_⟩
    · simp (disch := omega) only [iI_m1, iI_0, iI_1, iI_2, iI_3, iI_4, iI_5, iI_6, iI_7, iI_8, iI_9, iI_10, iI_11, iI_12, iI_13, iI_16, iI_18, iI_20, iI_24, iI_31, iI_32, iI_33, iI_36, iI_48, iI_57, iI_59, iI_63, iI_64, iI_97, iI_100, iI_101, iI_130, iI_255, iI_256, iI_512, iI_1000, iI_1009, iI_2000, iI_2048, iI_32768, iI_2147483647, iI_add, iI_sub, iI_mul, iI_neg, iI_lt, iI_le, iI_eq, iI_in] at c
      obtain rfl : j = 4 := by omega
      exact t_X0_halveAll hN (pSh_ok hc) (fun k hk => hd k (by omega)) (fun M' hf hA => hQ M' (hf.wide (by omega) (by omega)) hA)
    · simp (disch := omega) only [iI_m1, iI_0, iI_1, iI_2, iI_3, iI_4, iI_5, iI_6, iI_7, iI_8, iI_9, iI_10, iI_11, iI_12, iI_13, iI_16, iI_18, iI_20, iI_24, iI_31, iI_32, iI_33, iI_36, iI_48, iI_57, iI_59, iI_63, iI_64, iI_97, iI_100, iI_101, iI_130, iI_255, iI_256, iI_512, iI_1000, iI_1009, iI_2000, iI_2048, iI_32768, iI_2147483647, iI_add, iI_sub, iI_mul, iI_neg, iI_lt, iI_le, iI_eq, iI_in] at c
      simp (disch := omega) only [zrd_iI, zst_iI, iI_m1, iI_0, iI_1, iI_2, iI_3, iI_4, iI_5, iI_6, iI_7, iI_8, iI_9, iI_10, iI_11, iI_12, iI_13, iI_16, iI_18, iI_20, iI_24, iI_31, iI_32, iI_33, iI_36, iI_48, iI_57, iI_59, iI_63, iI_64, iI_97, iI_100, iI_101, iI_130, iI_255, iI_256, iI_512, iI_1000, iI_1009, iI_2000, iI_2048, iI_32768, iI_2147483647, iI_add, iI_sub, iI_mul, iI_neg, iI_lt, iI_le, iI_eq, iI_in]
      rw [show (2 * (j : Int)).toNat = 2 * j by omega, show (2 * (j : Int) + 1).toNat = 2 * j + 1 by omega, hr (2 * j) (by omega) (by omega), iI_add]
      refine ⟨by omega, by omega, ?_⟩
      intro M1 g1
      refine ⟨by omega, by omega, ?_⟩
      intro M2 g2 v e
      have e1 : M1.1 (a + 1) (2 * j + 1) = iI (p (2 * j + 1)) := by
        subst g1
        rw [zwI_1, if_neg (by omega)]
        exact hr _ (by omega) (by omega)
      rw [e1, iI_add] at g2
      subst e
      have hf : fz (a + 1) (a + 5) M M2 := by subst g1; subst g2; exact (fz_wI (by omega) (by omega)).tr (fz_wI (by omega) (by omega))
      refine ih (j + 1) M2 (by omega) (by omega) ?_ ?_ (fun M' hf' hA => hQ M' (hf.tr hf') hA)
      · intro k hk
        subst g1; subst g2
        simp only [zwI_1, true_and]
        by_cases h3 : k = 2 * j + 1
        · subst h3
          rw [if_pos rfl]
          unfold pSh
          rw [if_neg (by omega)]
        · rw [if_neg h3]
          by_cases h4 : k = 2 * j
          · subst h4
            rw [if_pos rfl]
            unfold pSh
            rw [if_pos (by omega)]
          · rw [if_neg h4]
            exact hd k (by omega)
      · intro k hk1 hk2
        subst g1; subst g2
        simp only [zwI_1, true_and]
        rw [if_neg (by omega), if_neg (by omega)]
        exact hr k (by omega) hk2
theorem t_X0_shiftAll {N a : Nat} {p : Nat → Int} {dx dy : Int} {M : zMem} {Q : zMem → Prop} (hN : 100 ≤ N) (hc : cSh p dx dy 4) (hT : RT p a M) (hQ : ∀ M', fz (a + 1) (a + 5) M M' → RA (pSh p dx dy) a M' → Q M') : f_X0_shiftAll N a (iI dx) (iI dy) M Q := by
  unfold f_X0_shiftAll
  exact l_X0_shiftAll hN hc N 0 M (by omega) (by omega) (fun k hk => by omega) (fun k _ hk => hT k hk) hQ
theorem t_X0_swap {N a i j : Nat} {M : zMem} {Q : zMem → Prop} (hi : i < 8) (hj : j < 8) (hQ : Q (zwI (zwI M (a + 1) i (M.1 (a + 1) j)) (a + 1) j (M.1 (a + 1) i))) : f_X0_swap N a (iI i) (iI j) M Q := by
  unfold f_X0_swap
  simp (disch := omega) only [zrd_iI, zst_iI, iI_m1, iI_0, iI_1, iI_2, iI_3, iI_4, iI_5, iI_6, iI_7, iI_8, iI_9, iI_10, iI_11, iI_12, iI_13, iI_16, iI_18, iI_20, iI_24, iI_31, iI_32, iI_33, iI_36, iI_48, iI_57, iI_59, iI_63, iI_64, iI_97, iI_100, iI_101, iI_130, iI_255, iI_256, iI_512, iI_1000, iI_1009, iI_2000, iI_2048, iI_32768, iI_2147483647, iI_add, iI_sub, iI_mul, iI_neg, iI_lt, iI_le, iI_eq, iI_in]
  rw [show ((i : Int)).toNat = i by omega, show ((j : Int)).toNat = j by omega]
  refine ⟨by omega, fun v e => ?_⟩
  subst e
  refine ⟨by omega, by omega, fun M1 g1 => ?_⟩
  refine ⟨by omega, fun M2 g2 => ?_⟩
  subst g1; subst g2
  exact hQ
def pRv (p : Nat → Int) : Nat → Int := fun k => p (6 - k / 2 * 2 + k % 2)
theorem pRv_ok {p : Nat → Int} (h : pOk p) : pOk (pRv p) := fun k hk => h _ (by omega)
theorem t_X0_turnRound {N a : Nat} {p : Nat → Int} {M : zMem} {Q : zMem → Prop} (hN : 100 ≤ N) (hp : pOk p) (hT : RT p a M) (hQ : ∀ M', fz (a + 1) (a + 5) M M' → RA (pRv p) a M' → Q M') : f_X0_turnRound N a M Q := by
  unfold f_X0_turnRound
  obtain ⟨n, hn⟩ : ∃ n, N = n + 3 := ⟨N - 3, by omega⟩
  suffices hh : f_X0_turnRound_l2 N a Q (n + 3) (iI ((0 : Nat) : Int)) M by rw [← hn] at hh; exact hh
  show f_X0_turnRound_b2 N (f_X0_turnRound_l2 N a Q (n + 2)) a (iI ((0 : Nat) : Int)) M Q
  unfold f_X0_turnRound_b2
  refine ⟨fun c => absurd c (by decide), fun c => ?_⟩
  refine t_X0_swap (i := 0) (j := 6) (by decide) (by decide) ?_
  refine t_X0_swap (i := 1) (j := 7) (by decide) (by decide) ?_
  intro v e
  subst e
  show f_X0_turnRound_b2 N (f_X0_turnRound_l2 N a Q (n + 1)) a (iI ((1 : Nat) : Int)) _ Q
  unfold f_X0_turnRound_b2
  refine ⟨fun c => absurd c (by decide), fun c => ?_⟩
  refine t_X0_swap (i := 2) (j := 4) (by decide) (by decide) ?_
  refine t_X0_swap (i := 3) (j := 5) (by decide) (by decide) ?_
  intro v e
  subst e
  show f_X0_turnRound_b2 N (f_X0_turnRound_l2 N a Q n) a (iI ((2 : Nat) : Int)) _ Q
  unfold f_X0_turnRound_b2
  refine ⟨fun c => ?_, fun c => absurd (by decide) c⟩
  refine t_X0_halveAll hN (pRv_ok hp) ?_ (fun M' hf hA => hQ M' (fz.tr ?_ (hf.wide (by omega) (by omega))) hA)
  · intro k hk
    simp only [zwI_1, true_and]
    rcases (show k = 0 ∨ k = 1 ∨ k = 2 ∨ k = 3 ∨ k = 4 ∨ k = 5 ∨ k = 6 ∨ k = 7 by omega) with rfl | rfl | rfl | rfl | rfl | rfl | rfl | rfl <;> simp [pRv] <;> exact hT _ (by decide)
  · exact (((((((fz_wI (by omega) (by omega)).tr (fz_wI (by omega) (by omega))).tr (fz_wI (by omega) (by omega))).tr (fz_wI (by omega) (by omega))).tr (fz_wI (by omega) (by omega))).tr (fz_wI (by omega) (by omega))).tr (fz_wI (by omega) (by omega))).tr (fz_wI (by omega) (by omega))
