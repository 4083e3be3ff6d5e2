/-! ===== the reference lays its nodes ===== -/
def SR (n : Nat) (P : Nat → Nat → Int) (M : zMem) : Prop := n ≤ 4 ∧ M.1 47 1 = iI n ∧ ∀ a, a < n → pOk (P a) ∧ ∀ k, k < 8 → M.1 48 (8 * a + k) = iI (P a k)
theorem t_X8_placeOf {N n a ax : Nat} {P : Nat → Nat → Int} {u v w : Int} {M : zMem} {Q : Int32 → zMem → Prop} (hS : SR n P M) (ha : a < n) (hax : ax < 2) (hQ : Q (iI (bl (P a) ax u v w)) M) : f_X8_placeOf N (iI a) (iI ax) (iI u) (iI v) (iI w) M Q := by
  unfold f_X8_placeOf
  have hn := hS.1
  have hk := (hS.2.2 a ha).2
  intro v1 e1 v2 e2 v3 e3 v4 e4
  simp (disch := omega) only [iI_m1, iI_0, iI_1, iI_2, iI_3, iI_4, iI_5, iI_6, iI_7, iI_8, iI_9, iI_10, iI_11, iI_12, iI_13, iI_16, iI_18, iI_20, iI_24, iI_31, iI_32, iI_33, iI_36, iI_48, iI_57, iI_59, iI_63, iI_64, iI_97, iI_100, iI_101, iI_130, iI_255, iI_256, iI_512, iI_1000, iI_1009, iI_2000, iI_2048, iI_32768, iI_2147483647, iI_add, iI_sub, iI_mul, iI_neg, iI_lt, iI_le, iI_eq, iI_in] at e1 e2 e3 e4
  subst e1; subst e2; subst e3; subst e4
  simp (disch := omega) only [zrd_iI, iI_m1, iI_0, iI_1, iI_2, iI_3, iI_4, iI_5, iI_6, iI_7, iI_8, iI_9, iI_10, iI_11, iI_12, iI_13, iI_16, iI_18, iI_20, iI_24, iI_31, iI_32, iI_33, iI_36, iI_48, iI_57, iI_59, iI_63, iI_64, iI_97, iI_100, iI_101, iI_130, iI_255, iI_256, iI_512, iI_1000, iI_1009, iI_2000, iI_2048, iI_32768, iI_2147483647, iI_add, iI_sub, iI_mul, iI_neg, iI_lt, iI_le, iI_eq, iI_in]
  rw [show (8 * (a : Int) + (ax : Int)).toNat = 8 * a + ax by omega, show (8 * (a : Int) + (ax : Int) + 2).toNat = 8 * a + (2 + ax) by omega, show (8 * (a : Int) + (ax : Int) + 4).toNat = 8 * a + (4 + ax) by omega, show (8 * (a : Int) + (ax : Int) + 6).toNat = 8 * a + (6 + ax) by omega, hk ax (by omega), hk (2 + ax) (by omega), hk (4 + ax) (by omega), hk (6 + ax) (by omega)]
  refine ⟨by omega, by omega, by omega, by omega, ?_⟩
  simp only [iI_mul, iI_add]
  rw [show P a ax * (32 - u) * (32 - v) * (32 - w) + P a (2 + ax) * (u * (32 - v) * (32 - w) + (32 - u) * v * (32 - w) + (32 - u) * (32 - v) * w) + P a (4 + ax) * (u * v * (32 - w) + u * (32 - v) * w + (32 - u) * v * w) + P a (6 + ax) * u * v * w = bl (P a) ax u v w by unfold bl lp; grind]
  exact hQ
theorem dep_sh : ∀ m : Nat, m < 64 → ∀ d : Nat, d < 6 → ((iI (m : Int) >>> ((iI (d : Int) + 1) &&& 31)) ≤ 0 ↔ dpt m ≤ d) := by decide +kernel
theorem dpt_le (m : Nat) : dpt m ≤ 5 := by unfold dpt; repeat' split
                                           all_goals omega
theorem l_X8_depth {N m : Nat} {M : zMem} {Q : Int32 → zMem → Prop} (h2 : m < 64) (hQ : Q (iI (dpt m)) M) : ∀ (k d : Nat), d ≤ dpt m → 7 ≤ d + k → f_X8_depth_l2 N (iI m) Q k (iI d) M := by
  intro k
  induction k with
  | zero => intro d a1 a2; have := dpt_le m; omega
  | succ k ih =>
    intro d a1 a2
    have hd := dpt_le m
    show f_X8_depth_b2 N (f_X8_depth_l2 N (iI m) Q k) (iI m) (iI d) M Q
    unfold f_X8_depth_b2
    rw [dep_sh m h2 d (by omega)]
    refine ⟨fun c => ?_, fun c v e => ?_⟩
    · rw [show dpt m = d by omega] at hQ
      exact hQ
    · simp (disch := omega) only [iI_m1, iI_0, iI_1, iI_2, iI_3, iI_4, iI_5, iI_6, iI_7, iI_8, iI_9, iI_10, iI_11, iI_12, iI_13, iI_16, iI_18, iI_20, iI_24, iI_31, iI_32, iI_33, iI_36, iI_48, iI_57, iI_59, iI_63, iI_64, iI_97, iI_100, iI_101, iI_130, iI_255, iI_256, iI_512, iI_1000, iI_1009, iI_2000, iI_2048, iI_32768, iI_2147483647, iI_add, iI_sub, iI_mul, iI_neg, iI_lt, iI_le, iI_eq, iI_in] at e
      subst e
      exact ih (d + 1) (by omega) (by omega)
theorem t_X8_depth {N m : Nat} {M : zMem} {Q : Int32 → zMem → Prop} (hN : 100 ≤ N) (h2 : m < 64) (hQ : Q (iI (dpt m)) M) : f_X8_depth N (iI m) M Q := by
  unfold f_X8_depth
  exact l_X8_depth h2 hQ N 0 (by omega) (by omega)
theorem from_sh : ∀ m : Nat, m < 64 → 1 ≤ m → (iI (m : Int) - ((1 : Int32) <<< (iI (dpt m : Int) &&& 31))) <<< (((5 : Int32) - iI (dpt m : Int)) &&& 31) = iI (fr m) := by decide +kernel
theorem to_sh : ∀ m : Nat, m < 64 → 1 ≤ m → iI (fr m) + ((1 : Int32) <<< (((5 : Int32) - iI (dpt m : Int)) &&& 31)) = iI (tt m) := by decide +kernel
theorem t_X8_from {N m : Nat} {M : zMem} {Q : Int32 → zMem → Prop} (hN : 100 ≤ N) (h1 : 1 ≤ m) (h2 : m < 64) (hQ : Q (iI (fr m)) M) : f_X8_from N (iI m) M Q := by
  unfold f_X8_from
  refine t_X8_depth hN h2 ?_
  rw [from_sh m h2 h1]
  exact hQ
theorem t_X8_to {N m : Nat} {M : zMem} {Q : Int32 → zMem → Prop} (hN : 100 ≤ N) (h1 : 1 ≤ m) (h2 : m < 64) (hQ : Q (iI (tt m)) M) : f_X8_to N (iI m) M Q := by
  unfold f_X8_to
  refine t_X8_from hN h1 h2 ?_
  refine t_X8_depth hN h2 ?_
  rw [to_sh m h2 h1]
  exact hQ
def laySet (c k : Nat) : Prop := c = 54 ∨ (c = 47 ∧ k = 11)
def s54 (c _k : Nat) : Prop := c = 54
theorem nI_ediv (k d : Nat) (hk : k < 4096) (hd : 0 < d) (hd2 : d < 4096) : iI (k : Int) / iI (d : Int) = iI ((k / d : Nat) : Int) := by
  rw [iI_div (by omega) (by omega) (by omega) (by omega), Int.tdiv_eq_ediv_of_nonneg (by omega)]
  rfl
theorem nI_emod (k d : Nat) (hk : k < 4096) (hd : 0 < d) (hd2 : d < 4096) : iI (k : Int) - iI (k : Int) / iI (d : Int) * iI (d : Int) = iI ((k % d : Nat) : Int) := by
  rw [nI_ediv k d hk hd hd2, iI_mul, iI_sub]
  congr 1
  have := Nat.div_add_mod k d
  rw [Nat.mul_comm] at this
  have h2 : ((k / d : Nat) : Int) * (d : Int) = ((k / d * d : Nat) : Int) := by simp
  rw [h2]
  omega
theorem SR.fs {n : Nat} {P : Nat → Nat → Int} {M M' : zMem} {S : Nat → Nat → Prop} (h : SR n P M) (hf : fs S M M') (h1 : ¬ S 47 1) (h2 : ∀ k, ¬ S 48 k) : SR n P M' := ⟨h.1, (hf.2 _ _ h1).trans h.2.1, fun a ha => ⟨(h.2.2 a ha).1, fun k hk => (hf.2 _ _ (h2 _)).trans ((h.2.2 a ha).2 k hk)⟩⟩
theorem l_X8_lays {N n : Nat} {P : Nat → Nat → Int} {Q : zMem → Prop} (hN : 100 ≤ N) : ∀ (f k : Nat) (M : zMem), SR n P M → k ≤ 512 * n → 512 * n + 1 ≤ k + f → (∀ j, j < k → 0 < j / 8 % 64 → M.1 54 j = iI (nd (P (j / 512)) (j / 8 % 64) (j % 8 / 2) (j % 2))) → (∀ M', fs s54 M M' → (∀ a, a < n → RLd (P a) a M') → Q M') → f_X8_lays_l15 N Q f (iI k) M := by
  intro f
  induction f with
  | zero => intro k M hS a1 a2; omega
  | succ f ih =>
    intro k M hS a1 a2 hj hQ
    have hn := hS.1
    show f_X8_lays_b15 N (f_X8_lays_l15 N Q f) (iI k) M Q
    unfold f_X8_lays_b15
    rw [hS.2.1]
    refine ⟨fun c => ?_, fun c => ?_⟩
    · simp (disch := omega) only [iI_m1, iI_0, iI_1, iI_2, iI_3, iI_4, iI_5, iI_6, iI_7, iI_8, iI_9, iI_10, iI_11, iI_12, iI_13, iI_16, iI_18, iI_20, iI_24, iI_31, iI_32, iI_33, iI_36, iI_48, iI_57, iI_59, iI_63, iI_64, iI_97, iI_100, iI_101, iI_130, iI_255, iI_256, iI_512, iI_1000, iI_1009, iI_2000, iI_2048, iI_32768, iI_2147483647, iI_add, iI_sub, iI_mul, iI_neg, iI_lt, iI_le, iI_eq, iI_in] at c
      refine hQ M fs.rf (fun a ha => ⟨by omega, (hS.2.2 a ha).1, ?_⟩)
      intro m i ax h1 h2 h3 h4
      have := hj (8 * (64 * a + m) + 2 * i + ax) (by omega) (by omega)
      rw [this, show (8 * (64 * a + m) + 2 * i + ax) / 512 = a by omega, show (8 * (64 * a + m) + 2 * i + ax) / 8 % 64 = m by omega, show (8 * (64 * a + m) + 2 * i + ax) % 8 / 2 = i by omega, show (8 * (64 * a + m) + 2 * i + ax) % 2 = ax by omega]
    · simp (disch := omega) only [iI_m1, iI_0, iI_1, iI_2, iI_3, iI_4, iI_5, iI_6, iI_7, iI_8, iI_9, iI_10, iI_11, iI_12, iI_13, iI_16, iI_18, iI_20, iI_24, iI_31, iI_32, iI_33, iI_36, iI_48, iI_57, iI_59, iI_63, iI_64, iI_97, iI_100, iI_101, iI_130, iI_255, iI_256, iI_512, iI_1000, iI_1009, iI_2000, iI_2048, iI_32768, iI_2147483647, iI_add, iI_sub, iI_mul, iI_neg, iI_lt, iI_le, iI_eq, iI_in] at c
      have hk : k < 2048 := by omega
      have e512 : iI (k : Int) / 512 = iI ((k / 512 : Nat) : Int) := nI_ediv k 512 (by omega) (by decide) (by decide)
      have e8 : iI (k : Int) / 8 = iI ((k / 8 : Nat) : Int) := nI_ediv k 8 (by omega) (by decide) (by decide)
      have m64 : iI ((k / 8 : Nat) : Int) - iI ((k / 8 : Nat) : Int) / 64 * 64 = iI ((k / 8 % 64 : Nat) : Int) := nI_emod (k / 8) 64 (by omega) (by decide) (by decide)
      have m8 : iI (k : Int) - iI (k : Int) / 8 * 8 = iI ((k % 8 : Nat) : Int) := nI_emod k 8 (by omega) (by decide) (by decide)
      have m2 : iI (k : Int) - iI (k : Int) / 2 * 2 = iI ((k % 2 : Nat) : Int) := nI_emod k 2 (by omega) (by decide) (by decide)
      have d2 : iI ((k % 8 : Nat) : Int) / 2 = iI ((k % 8 / 2 : Nat) : Int) := nI_ediv (k % 8) 2 (by omega) (by decide) (by decide)
      rw [m2, m8, d2, e512, e8, m64]
      intro v2 g2 v3 g3
      subst g2; subst g3
      have step : ∀ M', fs s54 M M' → (∀ j, j < k + 1 → 0 < j / 8 % 64 → M'.1 54 j = iI (nd (P (j / 512)) (j / 8 % 64) (j % 8 / 2) (j % 2))) → f_X8_lays_l15 N Q f (iI ((k + 1 : Nat) : Int)) M' := fun M' hf hj' => ih (k + 1) M' (hS.fs hf (by unfold s54; omega) (fun k => by unfold s54; omega)) (by omega) (by omega) hj' (fun M'' hf' hl => hQ M'' (hf.tr hf') hl)
      refine ⟨fun c2 => ?_, fun c2 v5 g5 => ?_⟩
      · simp (disch := omega) only [iI_m1, iI_0, iI_1, iI_2, iI_3, iI_4, iI_5, iI_6, iI_7, iI_8, iI_9, iI_10, iI_11, iI_12, iI_13, iI_16, iI_18, iI_20, iI_24, iI_31, iI_32, iI_33, iI_36, iI_48, iI_57, iI_59, iI_63, iI_64, iI_97, iI_100, iI_101, iI_130, iI_255, iI_256, iI_512, iI_1000, iI_1009, iI_2000, iI_2048, iI_32768, iI_2147483647, iI_add, iI_sub, iI_mul, iI_neg, iI_lt, iI_le, iI_eq, iI_in] at c2
        unfold f_X8_lays_b117
        intro v4 g4
        simp (disch := omega) only [iI_m1, iI_0, iI_1, iI_2, iI_3, iI_4, iI_5, iI_6, iI_7, iI_8, iI_9, iI_10, iI_11, iI_12, iI_13, iI_16, iI_18, iI_20, iI_24, iI_31, iI_32, iI_33, iI_36, iI_48, iI_57, iI_59, iI_63, iI_64, iI_97, iI_100, iI_101, iI_130, iI_255, iI_256, iI_512, iI_1000, iI_1009, iI_2000, iI_2048, iI_32768, iI_2147483647, iI_add, iI_sub, iI_mul, iI_neg, iI_lt, iI_le, iI_eq, iI_in] at g4
        subst g4
        refine step M fs.rf ?_
        intro j hj1 hj2
        by_cases hjk : j = k
        · subst hjk; omega
        · exact hj j (by omega) hj2
      · simp (disch := omega) only [iI_m1, iI_0, iI_1, iI_2, iI_3, iI_4, iI_5, iI_6, iI_7, iI_8, iI_9, iI_10, iI_11, iI_12, iI_13, iI_16, iI_18, iI_20, iI_24, iI_31, iI_32, iI_33, iI_36, iI_48, iI_57, iI_59, iI_63, iI_64, iI_97, iI_100, iI_101, iI_130, iI_255, iI_256, iI_512, iI_1000, iI_1009, iI_2000, iI_2048, iI_32768, iI_2147483647, iI_add, iI_sub, iI_mul, iI_neg, iI_lt, iI_le, iI_eq, iI_in] at c2
        subst g5
        refine t_X8_from hN (by omega) (by omega) ?_
        refine t_X8_to hN (by omega) (by omega) ?_
        have ha : k / 512 < n := by omega
        have put : ∀ u v w : Int, bl (P (k / 512)) (k % 2) u v w = nd (P (k / 512)) (k / 8 % 64) (k % 8 / 2) (k % 2) → f_X8_lays_b113 N (f_X8_lays_l15 N Q f) (iI k) (iI k) (iI ((k / 512 : Nat) : Int)) (iI ((k % 2 : Nat) : Int)) (iI u) (iI v) (iI w) M Q := by
          intro u v w huv
          unfold f_X8_lays_b113
          refine t_X8_placeOf hS ha (by omega) ?_
          rw [huv]
          simp (disch := omega) only [zst_iI, iI_m1, iI_0, iI_1, iI_2, iI_3, iI_4, iI_5, iI_6, iI_7, iI_8, iI_9, iI_10, iI_11, iI_12, iI_13, iI_16, iI_18, iI_20, iI_24, iI_31, iI_32, iI_33, iI_36, iI_48, iI_57, iI_59, iI_63, iI_64, iI_97, iI_100, iI_101, iI_130, iI_255, iI_256, iI_512, iI_1000, iI_1009, iI_2000, iI_2048, iI_32768, iI_2147483647, iI_add, iI_sub, iI_mul, iI_neg, iI_lt, iI_le, iI_eq, iI_in]
          rw [show ((k : Int)).toNat = k by omega]
          refine ⟨by omega, ?_⟩
          intro M1 g1
          unfold f_X8_lays_b117
          intro v4 g4
          simp (disch := omega) only [iI_m1, iI_0, iI_1, iI_2, iI_3, iI_4, iI_5, iI_6, iI_7, iI_8, iI_9, iI_10, iI_11, iI_12, iI_13, iI_16, iI_18, iI_20, iI_24, iI_31, iI_32, iI_33, iI_36, iI_48, iI_57, iI_59, iI_63, iI_64, iI_97, iI_100, iI_101, iI_130, iI_255, iI_256, iI_512, iI_1000, iI_1009, iI_2000, iI_2048, iI_32768, iI_2147483647, iI_add, iI_sub, iI_mul, iI_neg, iI_lt, iI_le, iI_eq, iI_in] at g4
          subst g4
          subst g1
          refine step _ (fs_wI rfl) ?_
          intro j hj1 hj2
          rw [zwI_1]
          by_cases hjk : j = k
          · subst hjk
            rw [if_pos ⟨rfl, rfl⟩]
          · rw [if_neg (fun h => hjk h.2)]
            exact hj j (by omega) hj2
        unfold nd at put
        have q2 : ∀ s5 s6 : Int, (k % 8 / 2 ≤ 2 → bl (P (k / 512)) (k % 2) s5 s6 (fr (k / 8 % 64)) = bl (P (k / 512)) (k % 2) (if 0 < k % 8 / 2 then tt (k / 8 % 64) else fr (k / 8 % 64)) (if 1 < k % 8 / 2 then tt (k / 8 % 64) else fr (k / 8 % 64)) (if 2 < k % 8 / 2 then tt (k / 8 % 64) else fr (k / 8 % 64))) → (¬ k % 8 / 2 ≤ 2 → bl (P (k / 512)) (k % 2) s5 s6 (tt (k / 8 % 64)) = bl (P (k / 512)) (k % 2) (if 0 < k % 8 / 2 then tt (k / 8 % 64) else fr (k / 8 % 64)) (if 1 < k % 8 / 2 then tt (k / 8 % 64) else fr (k / 8 % 64)) (if 2 < k % 8 / 2 then tt (k / 8 % 64) else fr (k / 8 % 64))) → f_X8_lays_b100 N (f_X8_lays_l15 N Q f) (iI k) (iI ((k % 8 / 2 : Nat) : Int)) (iI (fr (k / 8 % 64))) (iI (tt (k / 8 % 64))) (iI k) (iI ((k / 512 : Nat) : Int)) (iI ((k % 2 : Nat) : Int)) (iI s5) (iI s6) M Q := by
          intro s5 s6 ha hb
          unfold f_X8_lays_b100
          refine ⟨fun c4 => ?_, fun c4 => ?_⟩
          · simp (disch := omega) only [iI_m1, iI_0, iI_1, iI_2, iI_3, iI_4, iI_5, iI_6, iI_7, iI_8, iI_9, iI_10, iI_11, iI_12, iI_13, iI_16, iI_18, iI_20, iI_24, iI_31, iI_32, iI_33, iI_36, iI_48, iI_57, iI_59, iI_63, iI_64, iI_97, iI_100, iI_101, iI_130, iI_255, iI_256, iI_512, iI_1000, iI_1009, iI_2000, iI_2048, iI_32768, iI_2147483647, iI_add, iI_sub, iI_mul, iI_neg, iI_lt, iI_le, iI_eq, iI_in] at c4
            exact put _ _ _ (ha (by omega))
          · simp (disch := omega) only [iI_m1, iI_0, iI_1, iI_2, iI_3, iI_4, iI_5, iI_6, iI_7, iI_8, iI_9, iI_10, iI_11, iI_12, iI_13, iI_16, iI_18, iI_20, iI_24, iI_31, iI_32, iI_33, iI_36, iI_48, iI_57, iI_59, iI_63, iI_64, iI_97, iI_100, iI_101, iI_130, iI_255, iI_256, iI_512, iI_1000, iI_1009, iI_2000, iI_2048, iI_32768, iI_2147483647, iI_add, iI_sub, iI_mul, iI_neg, iI_lt, iI_le, iI_eq, iI_in] at c4
            exact put _ _ _ (hb (by omega))
        unfold f_X8_lays_b87
        refine ⟨fun c3 => ⟨fun c4 => ?_, fun c4 => ?_⟩, fun c3 => ⟨fun c4 => ?_, fun c4 => ?_⟩⟩
        · simp (disch := omega) only [iI_m1, iI_0, iI_1, iI_2, iI_3, iI_4, iI_5, iI_6, iI_7, iI_8, iI_9, iI_10, iI_11, iI_12, iI_13, iI_16, iI_18, iI_20, iI_24, iI_31, iI_32, iI_33, iI_36, iI_48, iI_57, iI_59, iI_63, iI_64, iI_97, iI_100, iI_101, iI_130, iI_255, iI_256, iI_512, iI_1000, iI_1009, iI_2000, iI_2048, iI_32768, iI_2147483647, iI_add, iI_sub, iI_mul, iI_neg, iI_lt, iI_le, iI_eq, iI_in] at c3 c4
          refine q2 _ _ (fun h => ?_) (fun h => by omega)
          rw [if_neg (by omega), if_neg (by omega), if_neg (by omega)]
        · simp (disch := omega) only [iI_m1, iI_0, iI_1, iI_2, iI_3, iI_4, iI_5, iI_6, iI_7, iI_8, iI_9, iI_10, iI_11, iI_12, iI_13, iI_16, iI_18, iI_20, iI_24, iI_31, iI_32, iI_33, iI_36, iI_48, iI_57, iI_59, iI_63, iI_64, iI_97, iI_100, iI_101, iI_130, iI_255, iI_256, iI_512, iI_1000, iI_1009, iI_2000, iI_2048, iI_32768, iI_2147483647, iI_add, iI_sub, iI_mul, iI_neg, iI_lt, iI_le, iI_eq, iI_in] at c3 c4
          omega
        · simp (disch := omega) only [iI_m1, iI_0, iI_1, iI_2, iI_3, iI_4, iI_5, iI_6, iI_7, iI_8, iI_9, iI_10, iI_11, iI_12, iI_13, iI_16, iI_18, iI_20, iI_24, iI_31, iI_32, iI_33, iI_36, iI_48, iI_57, iI_59, iI_63, iI_64, iI_97, iI_100, iI_101, iI_130, iI_255, iI_256, iI_512, iI_1000, iI_1009, iI_2000, iI_2048, iI_32768, iI_2147483647, iI_add, iI_sub, iI_mul, iI_neg, iI_lt, iI_le, iI_eq, iI_in] at c3 c4
          refine q2 _ _ (fun h => ?_) (fun h => by omega)
          rw [if_pos (by omega), if_neg (by omega), if_neg (by omega)]
        · simp (disch := omega) only [iI_m1, iI_0, iI_1, iI_2, iI_3, iI_4, iI_5, iI_6, iI_7, iI_8, iI_9, iI_10, iI_11, iI_12, iI_13, iI_16, iI_18, iI_20, iI_24, iI_31, iI_32, iI_33, iI_36, iI_48, iI_57, iI_59, iI_63, iI_64, iI_97, iI_100, iI_101, iI_130, iI_255, iI_256, iI_512, iI_1000, iI_1009, iI_2000, iI_2048, iI_32768, iI_2147483647, iI_add, iI_sub, iI_mul, iI_neg, iI_lt, iI_le, iI_eq, iI_in] at c3 c4
          refine q2 _ _ (fun h => ?_) (fun h => ?_)
          · rw [if_pos (by omega), if_pos (by omega), if_neg (by omega)]
          · rw [if_pos (by omega), if_pos (by omega), if_pos (by omega)]
theorem t_X8_lays {N n : Nat} {P : Nat → Nat → Int} {M : zMem} {Q : zMem → Prop} (hN : 3000 ≤ N) (hS : SR n P M) (hl : M.1 47 11 = 0 ∨ (M.1 47 11 = 1 ∧ ∀ a, a < n → RLd (P a) a M)) (hQ : ∀ M', fs laySet M M' → M'.1 47 11 = 1 → (∀ a, a < n → RLd (P a) a M') → Q M') : f_X8_lays N M Q := by
  unfold f_X8_lays
  have hn := hS.1
  refine ⟨fun c M1 g1 => ?_, fun c => ?_⟩
  · have hf : fs laySet M M1 := by subst g1; exact fs_wI (Or.inr ⟨rfl, rfl⟩)
    have e1 : M1.1 47 11 = 1 := by subst g1; rw [zwI_1, if_pos ⟨rfl, rfl⟩]
    refine l_X8_lays (by omega) N 0 M1 (hS.fs hf (by unfold laySet; omega) (fun k => by unfold laySet; omega)) (by omega) (by omega) (fun j hj => by omega) ?_
    intro M' hf' hl'
    exact hQ M' (hf.tr (hf'.wide (fun c k h => Or.inl h))) ((hf'.2 47 11 (by unfold s54; omega)).trans e1) hl'
  · rcases hl with h | h
    · exact absurd h c
    · exact hQ M fs.rf h.1 h.2
