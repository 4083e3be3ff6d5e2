/-! ===== area: both sides ===== -/
def cxA (p : Nat → Int) (i j : Nat) : Int := p (2 * i) * p (2 * j + 1) - p (2 * i + 1) * p (2 * j)
def arA (p : Nat → Int) : Int := 6 * cxA p 0 1 + 3 * cxA p 0 2 + cxA p 0 3 + 3 * cxA p 1 2 + 3 * cxA p 1 3 + 6 * cxA p 2 3
theorem mul_81 {x y : Int} (hx : -9 ≤ x ∧ x ≤ 9) (hy : -9 ≤ y ∧ y ≤ 9) : -81 ≤ x * y ∧ x * y ≤ 81 := by
  have a1 := Int.mul_nonneg (show 0 ≤ 9 - x by omega) (show 0 ≤ 9 + y by omega)
  have a2 := Int.mul_nonneg (show 0 ≤ 9 + x by omega) (show 0 ≤ 9 - y by omega)
  have a3 := Int.mul_nonneg (show 0 ≤ 9 - x by omega) (show 0 ≤ 9 - y by omega)
  have a4 := Int.mul_nonneg (show 0 ≤ 9 + x by omega) (show 0 ≤ 9 + y by omega)
  have e1 : (9 - x) * (9 + y) = 81 + 9 * y - 9 * x - x * y := by grind
  have e2 : (9 + x) * (9 - y) = 81 - 9 * y + 9 * x - x * y := by grind
  have e3 : (9 - x) * (9 - y) = 81 - 9 * y - 9 * x + x * y := by grind
  have e4 : (9 + x) * (9 + y) = 81 + 9 * y + 9 * x + x * y := by grind
  omega
theorem cxA_bd {p : Nat → Int} (hp : pOk p) {i j : Nat} (hi : i < 4) (hj : j < 4) : -162 ≤ cxA p i j ∧ cxA p i j ≤ 162 := by
  have a1 := mul_81 (hp (2 * i) (by omega)) (hp (2 * j + 1) (by omega))
  have a2 := mul_81 (hp (2 * i + 1) (by omega)) (hp (2 * j) (by omega))
  unfold cxA
  omega
theorem arA_bd {p : Nat → Int} (hp : pOk p) : -3600 ≤ arA p ∧ arA p ≤ 3600 := by
  have a1 := cxA_bd hp (i := 0) (j := 1) (by decide) (by decide)
  have a2 := cxA_bd hp (i := 0) (j := 2) (by decide) (by decide)
  have a3 := cxA_bd hp (i := 0) (j := 3) (by decide) (by decide)
  have a4 := cxA_bd hp (i := 1) (j := 2) (by decide) (by decide)
  have a5 := cxA_bd hp (i := 1) (j := 3) (by decide) (by decide)
  have a6 := cxA_bd hp (i := 2) (j := 3) (by decide) (by decide)
  unfold arA
  omega
def wtA (k : Nat) : Int := (zaw k).toInt
theorem wtA_e (k : Nat) : zaw k = iI (wtA k) := by unfold wtA iI; exact (Int32.ofInt_toInt _).symm
theorem a_in {N a i j f : Nat} {acc : Int} {p : Nat → Int} {M : zMem} {k4 : Int32 → Int32 → zMem → Prop} {Q : Int32 → zMem → Prop} (hT : RT p a M) (hi : i < 4) (hj : j < 4) (hK : f_X0_areaParts_l13 N k4 a (iI (i : Int)) Q f (iI (acc + wtA (4 * i + j) * cxA p i j)) (iI ((j + 1 : Nat) : Int)) M) : f_X0_areaParts_l13 N k4 a (iI (i : Int)) Q (f + 1) (iI acc) (iI (j : Int)) M := by
  show f_X0_areaParts_b13 N k4 (f_X0_areaParts_l13 N k4 a (iI (i : Int)) Q f) a (iI (i : Int)) (iI acc) (iI (j : Int)) M Q
  unfold f_X0_areaParts_b13
  have e1 : (2 : Int32) * iI (i : Int) = iI ((2 * i : Nat) : Int) := by rw [iI_2, iI_mul]; congr 1 <;> omega
  have e2 : (2 : Int32) * iI (j : Int) = iI ((2 * j : Nat) : Int) := by rw [iI_2, iI_mul]; congr 1 <;> omega
  have e3 : iI ((2 * i : Nat) : Int) + 1 = iI ((2 * i + 1 : Nat) : Int) := by rw [iI_1, iI_add]; rfl
  have e4 : iI ((2 * j : Nat) : Int) + 1 = iI ((2 * j + 1 : Nat) : Int) := by rw [iI_1, iI_add]; rfl
  have e5 : (4 : Int32) * iI (i : Int) + iI (j : Int) = iI ((4 * i + j : Nat) : Int) := by rw [iI_4, iI_mul, iI_add]; congr 1 <;> omega
  rw [e1, e2, e3, e4, e5]
  refine ⟨fun c => ?_, fun _ => ⟨iI_in0 (by omega) (by omega) (by decide), iI_in0 (by omega) (by omega) (by decide), iI_in0 (by omega) (by omega) (by decide), iI_in0 (by omega) (by omega) (by decide), fun v3 g3 => ⟨iI_in0 (by omega) (by omega) (by decide), fun v4 g4 v5 g5 => ?_⟩⟩⟩
  · simp (disch := omega) only [iI_m1, iI_0, iI_1, iI_2, iI_3, iI_4, iI_5, iI_6, iI_7, iI_8, iI_9, iI_10, iI_11, iI_12, iI_13, iI_16, iI_18, iI_20, iI_24, iI_31, iI_32, iI_33, iI_36, iI_48, iI_57, iI_59, iI_63, iI_64, iI_97, iI_100, iI_101, iI_130, iI_255, iI_256, iI_512, iI_1000, iI_1009, iI_2000, iI_2048, iI_32768, iI_2147483647, iI_add, iI_sub, iI_mul, iI_neg, iI_lt, iI_le, iI_eq, iI_in] at c
    omega
  · have rr : ∀ k : Nat, k < 8 → zrd M (a + 1) (iI (k : Int)) = iI (p k) := fun k hk => by rw [zrd_iI (by omega) (by omega), toN]; exact hT k hk
    rw [rr _ (by omega), rr _ (by omega), rr _ (by omega), rr _ (by omega), iI_mul, iI_mul, iI_sub] at g3
    subst g3
    rw [clN (by omega), wtA_e, iI_mul, iI_add] at g4
    simp (disch := omega) only [iI_m1, iI_0, iI_1, iI_2, iI_3, iI_4, iI_5, iI_6, iI_7, iI_8, iI_9, iI_10, iI_11, iI_12, iI_13, iI_16, iI_18, iI_20, iI_24, iI_31, iI_32, iI_33, iI_36, iI_48, iI_57, iI_59, iI_63, iI_64, iI_97, iI_100, iI_101, iI_130, iI_255, iI_256, iI_512, iI_1000, iI_1009, iI_2000, iI_2048, iI_32768, iI_2147483647, iI_add, iI_sub, iI_mul, iI_neg, iI_lt, iI_le, iI_eq, iI_in] at g5
    subst g4; subst g5
    exact hK
theorem a_end {N a i f : Nat} {acc : Int} {M : zMem} {k4 : Int32 → Int32 → zMem → Prop} {Q : Int32 → zMem → Prop} (hK : k4 (iI acc) (iI ((i : Int) + 1)) M) : f_X0_areaParts_l13 N k4 a (iI (i : Int)) Q (f + 1) (iI acc) (iI ((4 : Nat) : Int)) M := by
  show f_X0_areaParts_b13 N k4 (f_X0_areaParts_l13 N k4 a (iI (i : Int)) Q f) a (iI (i : Int)) (iI acc) (iI ((4 : Nat) : Int)) M Q
  unfold f_X0_areaParts_b13
  refine ⟨fun _ v e => ?_, fun c => absurd (by decide) c⟩
  simp (disch := omega) only [iI_m1, iI_0, iI_1, iI_2, iI_3, iI_4, iI_5, iI_6, iI_7, iI_8, iI_9, iI_10, iI_11, iI_12, iI_13, iI_16, iI_18, iI_20, iI_24, iI_31, iI_32, iI_33, iI_36, iI_48, iI_57, iI_59, iI_63, iI_64, iI_97, iI_100, iI_101, iI_130, iI_255, iI_256, iI_512, iI_1000, iI_1009, iI_2000, iI_2048, iI_32768, iI_2147483647, iI_add, iI_sub, iI_mul, iI_neg, iI_lt, iI_le, iI_eq, iI_in] at e
  subst e
  exact hK
theorem a_out {N a i f : Nat} {acc : Int} {M : zMem} {Q : Int32 → zMem → Prop} (hi : i < 4) (hK : f_X0_areaParts_l13 N (f_X0_areaParts_l4 N a Q f) a (iI (i : Int)) Q N (iI acc) (iI ((i + 1 : Nat) : Int)) M) : f_X0_areaParts_l4 N a Q (f + 1) (iI acc) (iI (i : Int)) M := by
  show f_X0_areaParts_b4 N (f_X0_areaParts_l4 N a Q f) a (iI acc) (iI (i : Int)) M Q
  unfold f_X0_areaParts_b4
  refine ⟨fun c => ?_, fun _ v e => ?_⟩
  · simp (disch := omega) only [iI_m1, iI_0, iI_1, iI_2, iI_3, iI_4, iI_5, iI_6, iI_7, iI_8, iI_9, iI_10, iI_11, iI_12, iI_13, iI_16, iI_18, iI_20, iI_24, iI_31, iI_32, iI_33, iI_36, iI_48, iI_57, iI_59, iI_63, iI_64, iI_97, iI_100, iI_101, iI_130, iI_255, iI_256, iI_512, iI_1000, iI_1009, iI_2000, iI_2048, iI_32768, iI_2147483647, iI_add, iI_sub, iI_mul, iI_neg, iI_lt, iI_le, iI_eq, iI_in] at c
    omega
  · simp (disch := omega) only [iI_m1, iI_0, iI_1, iI_2, iI_3, iI_4, iI_5, iI_6, iI_7, iI_8, iI_9, iI_10, iI_11, iI_12, iI_13, iI_16, iI_18, iI_20, iI_24, iI_31, iI_32, iI_33, iI_36, iI_48, iI_57, iI_59, iI_63, iI_64, iI_97, iI_100, iI_101, iI_130, iI_255, iI_256, iI_512, iI_1000, iI_1009, iI_2000, iI_2048, iI_32768, iI_2147483647, iI_add, iI_sub, iI_mul, iI_neg, iI_lt, iI_le, iI_eq, iI_in] at e
    subst e
    exact hK
theorem t_X0_areaParts {N a : Nat} {p : Nat → Int} {M : zMem} {Q : Int32 → zMem → Prop} (hN : 100 ≤ N) (hT : RT p a M) (hQ : Q (iI (arA p)) M) : f_X0_areaParts N a M Q := by
  unfold f_X0_areaParts
  obtain ⟨k, rfl⟩ : ∃ k, N = k + 5 := ⟨N - 5, by omega⟩
  refine a_out (acc := 0) (i := 0) (by decide) ?_
  refine a_in (i := 0) (j := 1) hT (by decide) (by decide) ?_
  refine a_in (i := 0) (j := 2) hT (by decide) (by decide) ?_
  refine a_in (i := 0) (j := 3) hT (by decide) (by decide) ?_
  refine a_end (i := 0) ?_
  refine a_out (i := 1) (by decide) ?_
  refine a_in (i := 1) (j := 2) hT (by decide) (by decide) ?_
  refine a_in (i := 1) (j := 3) hT (by decide) (by decide) ?_
  refine a_end (i := 1) ?_
  refine a_out (i := 2) (by decide) ?_
  refine a_in (i := 2) (j := 3) hT (by decide) (by decide) ?_
  refine a_end (i := 2) ?_
  refine a_out (i := 3) (by decide) ?_
  refine a_end (i := 3) ?_
  show f_X0_areaParts_b4 (k + 5) (f_X0_areaParts_l4 (k + 5) a Q k) a _ (iI ((4 : Nat) : Int)) M Q
  unfold f_X0_areaParts_b4
  refine ⟨fun _ => ?_, fun c => absurd (by decide) c⟩
  have w1 : wtA 1 = 6 := by decide
  have w2 : wtA 2 = 3 := by decide
  have w3 : wtA 3 = 1 := by decide
  have w6 : wtA 6 = 3 := by decide
  have w7 : wtA 7 = 3 := by decide
  have w11 : wtA 11 = 6 := by decide
  rw [show 4 * 0 + 1 = 1 from rfl, show 4 * 0 + 2 = 2 from rfl, show 4 * 0 + 3 = 3 from rfl, show 4 * 1 + 2 = 6 from rfl, show 4 * 1 + 3 = 7 from rfl, show 4 * 2 + 3 = 11 from rfl, w1, w2, w3, w6, w7, w11]
  rw [show (0 : Int) + 6 * cxA p 0 1 + 3 * cxA p 0 2 + 1 * cxA p 0 3 + 3 * cxA p 1 2 + 3 * cxA p 1 3 + 6 * cxA p 2 3 = arA p by unfold arA; omega]
  exact hQ
theorem dvz {z : Int} {d : Nat} (hd : 0 < d) : z - z.tdiv (d : Int) * (d : Int) = 0 ↔ d ∣ z.natAbs := by
  have key : ∀ k : Nat, (k : Int) - ((k : Int).tdiv (d : Int)) * (d : Int) = 0 ↔ d ∣ k := by
    intro k
    have e : ((k : Int).tdiv (d : Int)) * (d : Int) = ((k / d * d : Nat) : Int) := rfl
    rw [e]
    have h1 := Nat.div_add_mod k d
    rw [Nat.mul_comm] at h1
    constructor
    · intro h
      exact Nat.dvd_of_mod_eq_zero (by omega)
    · intro h
      have := Nat.mod_eq_zero_of_dvd h
      omega
  rcases Int.natAbs_eq z with h | h
  · have h2 := key z.natAbs
    rw [← h] at h2
    exact h2
  · have h2 := key z.natAbs
    rw [← h2]
    generalize z.natAbs = k at h
    subst h
    rw [Int.neg_tdiv, Int.neg_mul]
    omega
theorem t_X7_commonDivisor {N : Nat} {z : Int} {M : zMem} {Q : Int32 → zMem → Prop} (hN : 100 ≤ N) (hz : -20000 ≤ z ∧ z ≤ 20000) (hQ : Q (iI (Nat.gcd 20 z.natAbs : Int)) M) : f_X7_commonDivisor N (iI z) M Q := by
  unfold f_X7_commonDivisor
  have g1 := Nat.gcd_dvd_left 20 z.natAbs
  have g2 := Nat.gcd_dvd_right 20 z.natAbs
  have gp : 0 < Nat.gcd 20 z.natAbs := Nat.gcd_pos_of_pos_left _ (by decide)
  have lp : ∀ (f d : Nat), d + 1 ≤ f → d ≤ 20 → Nat.gcd 20 z.natAbs ≤ d → f_X7_commonDivisor_l3 N (iI z) Q f (iI (d : Int)) M := by
    intro f
    induction f with
    | zero => intro d h; omega
    | succ f ih =>
      intro d hf hd hg
      show f_X7_commonDivisor_b3 N (f_X7_commonDivisor_l3 N (iI z) Q f) (iI z) (iI (d : Int)) M Q
      unfold f_X7_commonDivisor_b3
      have next : Nat.gcd 20 z.natAbs ≠ d → f_X7_commonDivisor_b23 N (f_X7_commonDivisor_l3 N (iI z) Q f) (iI z) (iI (d : Int)) M Q := by
        intro hne
        unfold f_X7_commonDivisor_b23
        intro v e
        rw [iI_m1, iI_add, show (d : Int) + -1 = ((d - 1 : Nat) : Int) by omega] at e
        subst e
        exact ih (d - 1) (by omega) (by omega) (by omega)
      refine ⟨fun c => ?_, fun c => ?_⟩
      · simp (disch := omega) only [iI_m1, iI_0, iI_1, iI_2, iI_3, iI_4, iI_5, iI_6, iI_7, iI_8, iI_9, iI_10, iI_11, iI_12, iI_13, iI_16, iI_18, iI_20, iI_24, iI_31, iI_32, iI_33, iI_36, iI_48, iI_57, iI_59, iI_63, iI_64, iI_97, iI_100, iI_101, iI_130, iI_255, iI_256, iI_512, iI_1000, iI_1009, iI_2000, iI_2048, iI_32768, iI_2147483647, iI_add, iI_sub, iI_mul, iI_neg, iI_lt, iI_le, iI_eq, iI_in] at c
        rw [show Nat.gcd 20 z.natAbs = 1 by omega] at hQ
        exact hQ
      · simp (disch := omega) only [iI_m1, iI_0, iI_1, iI_2, iI_3, iI_4, iI_5, iI_6, iI_7, iI_8, iI_9, iI_10, iI_11, iI_12, iI_13, iI_16, iI_18, iI_20, iI_24, iI_31, iI_32, iI_33, iI_36, iI_48, iI_57, iI_59, iI_63, iI_64, iI_97, iI_100, iI_101, iI_130, iI_255, iI_256, iI_512, iI_1000, iI_1009, iI_2000, iI_2048, iI_32768, iI_2147483647, iI_add, iI_sub, iI_mul, iI_neg, iI_lt, iI_le, iI_eq, iI_in] at c
        have dn : ¬ iI (d : Int) = 0 := by rw [iI_0, iI_eq (by omega) (by omega) (by decide) (by decide)]; omega
        refine ⟨dn, ?_⟩
        have d20 := dvz (z := 20) (d := d) (by omega)
        have dz := dvz (z := z) (d := d) (by omega)
        have hb20 := Int.natAbs_tdiv_le_natAbs 20 (d : Int)
        have hbz := Int.natAbs_tdiv_le_natAbs z (d : Int)
        have e20 : (20 : Int32) - (20 : Int32) / iI (d : Int) * iI (d : Int) = 0 ↔ d ∣ 20 := by
          rw [iI_20, iI_div (by decide) (by decide) (by omega) (by omega), iI_mul, iI_sub, iI_0]
          have hm : 0 ≤ Int.tdiv 20 (d : Int) * d ∧ Int.tdiv 20 (d : Int) * d ≤ 20 := by
            have e : (Int.tdiv 20 (d : Int)) * (d : Int) = ((20 / d * d : Nat) : Int) := rfl
            rw [e]
            have := Nat.div_mul_le_self 20 d
            omega
          rw [iI_eq (by omega) (by omega) (by decide) (by decide)]
          exact d20
        have ez : iI z - iI z / iI (d : Int) * iI (d : Int) = 0 ↔ d ∣ z.natAbs := by
          rw [iI_div (by omega) (by omega) (by omega) (by omega), iI_mul, iI_sub, iI_0]
          have hm : (z.tdiv (d : Int) * (d : Int)).natAbs ≤ z.natAbs := by
            rw [Int.natAbs_mul, Int.natAbs_tdiv]
            exact Nat.div_mul_le_self _ _
          rw [iI_eq (by omega) (by omega) (by decide) (by decide)]
          exact dz
        refine ⟨fun w => next (fun e => w (e20.mpr (e ▸ g1))), fun w => ⟨dn, fun w2 => next (fun e => w2 (ez.mpr (e ▸ g2))), fun w2 => ?_⟩⟩
        have h3 := Nat.dvd_gcd (e20.mp w) (ez.mp w2)
        have h4 := Nat.le_of_dvd gp h3
        rw [show Nat.gcd 20 z.natAbs = d by omega] at hQ
        exact hQ
  refine lp N 20 (by omega) (by omega) (Nat.le_of_dvd (by decide) g1)
noncomputable def asA (P : Nat → Nat → Int) (z : Int) : Nat → Int
  | 0 => 0
  | k + 1 => asA P z k + ifp (z = -1 ∨ z = (k : Int)) (arA (P k)) 0
theorem asA_bd {P : Nat → Nat → Int} {z : Int} : ∀ k, (∀ a, a < k → pOk (P a)) → -(3600 * (k : Int)) ≤ asA P z k ∧ asA P z k ≤ 3600 * (k : Int) := by
  intro k
  induction k with
  | zero =>
    intro _
    show -(3600 * ((0 : Nat) : Int)) ≤ 0 ∧ (0 : Int) ≤ 3600 * ((0 : Nat) : Int)
    omega
  | succ k ih =>
    intro h
    have h1 := ih (fun a ha => h a (by omega))
    have h2 := arA_bd (h k (by omega))
    show -(3600 * ((k + 1 : Nat) : Int)) ≤ asA P z k + ifp (z = -1 ∨ z = (k : Int)) (arA (P k)) 0 ∧ asA P z k + ifp (z = -1 ∨ z = (k : Int)) (arA (P k)) 0 ≤ 3600 * ((k + 1 : Nat) : Int)
    rcases Classical.em (z = -1 ∨ z = (k : Int)) with q | q
    · rw [ifp_t q]; omega
    · rw [ifp_f q]; omega
theorem asA_y {P : Nat → Nat → Int} {z : Int} {k : Nat} (h : z = -1 ∨ z = (k : Int)) : asA P z (k + 1) = asA P z k + arA (P k) := by
  rw [show asA P z (k + 1) = asA P z k + ifp (z = -1 ∨ z = (k : Int)) (arA (P k)) 0 from rfl, ifp_t h]
theorem asA_n {P : Nat → Nat → Int} {z : Int} {k : Nat} (h : ¬ (z = -1 ∨ z = (k : Int))) : asA P z (k + 1) = asA P z k := by
  rw [show asA P z (k + 1) = asA P z k + ifp (z = -1 ∨ z = (k : Int)) (arA (P k)) 0 from rfl, ifp_f h, Int.add_zero]
noncomputable def vArea (n : Nat) (P : Nat → Nat → Int) (z1 z2 : Int) : Int := ifp ((z1 = -1 ∨ (0 ≤ z1 ∧ z1 < n)) ∧ (0 ≤ z2 ∧ z2 < 2)) (ifp (z2 = 0) ((asA P z1 n).tdiv (Nat.gcd 20 (asA P z1 n).natAbs : Int)) ((20 : Int).tdiv (Nat.gcd 20 (asA P z1 n).natAbs : Int))) (-2147483647)
theorem c_area {N n : Nat} {P : Nat → Nat → Int} {z1 z2 : Int} {M : zMem} {Q : Int32 → zMem → Prop} (hN : 100 ≤ N) (h : cA n P M) (h1 : -2147483648 ≤ z1 ∧ z1 < 2147483648) (h2 : -2147483648 ≤ z2 ∧ z2 < 2147483648) (hQ : Q (iI (vArea n P z1 z2)) M) : f_X7_area N (iI z1) (iI z2) M Q := by
  unfold f_X7_area
  unfold vArea at hQ
  have hn := h.1
  have b13 : (z1 = -1 ∨ (0 ≤ z1 ∧ z1 < n)) → f_X7_area_b13 N (iI z1) (iI z2) M Q := by
    intro hv
    unfold f_X7_area_b13
    refine ⟨fun c => ?_, fun c => ⟨fun c2 => ?_, fun c2 => ?_⟩⟩
    · simp (disch := omega) only [iI_m1, iI_0, iI_1, iI_2, iI_3, iI_4, iI_5, iI_6, iI_7, iI_8, iI_9, iI_10, iI_11, iI_12, iI_13, iI_16, iI_18, iI_20, iI_24, iI_31, iI_32, iI_33, iI_36, iI_48, iI_57, iI_59, iI_63, iI_64, iI_97, iI_100, iI_101, iI_130, iI_255, iI_256, iI_512, iI_1000, iI_1009, iI_2000, iI_2048, iI_32768, iI_2147483647, iI_add, iI_sub, iI_mul, iI_neg, iI_lt, iI_le, iI_eq, iI_in] at c
      rw [ifp_f (by omega)] at hQ
      exact hQ
    · simp (disch := omega) only [iI_m1, iI_0, iI_1, iI_2, iI_3, iI_4, iI_5, iI_6, iI_7, iI_8, iI_9, iI_10, iI_11, iI_12, iI_13, iI_16, iI_18, iI_20, iI_24, iI_31, iI_32, iI_33, iI_36, iI_48, iI_57, iI_59, iI_63, iI_64, iI_97, iI_100, iI_101, iI_130, iI_255, iI_256, iI_512, iI_1000, iI_1009, iI_2000, iI_2048, iI_32768, iI_2147483647, iI_add, iI_sub, iI_mul, iI_neg, iI_lt, iI_le, iI_eq, iI_in] at c c2
      rw [ifp_t (by omega)] at hQ
      have lp : ∀ (r f k : Nat), r + k = n → r + 1 ≤ f → f_X7_area_l30 N (iI z1) (iI z2) Q f (iI (asA P z1 k)) (iI (k : Int)) M := by
        intro r
        induction r with
        | zero =>
          intro f k hk hf
          obtain ⟨f, rfl⟩ : ∃ g, f = g + 1 := ⟨f - 1, by omega⟩
          show f_X7_area_b30 N (f_X7_area_l30 N (iI z1) (iI z2) Q f) (iI z1) (iI z2) (iI (asA P z1 k)) (iI (k : Int)) M Q
          unfold f_X7_area_b30
          obtain rfl : k = n := by omega
          rw [h.2.1]
          refine ⟨fun _ => ?_, fun cc => ?_⟩
          · have hb := asA_bd (z := z1) k (fun a ha => (h.2.2.1 a ha).1)
            have gp : 0 < Nat.gcd 20 (asA P z1 k).natAbs := Nat.gcd_pos_of_pos_left _ (by decide)
            have gl : Nat.gcd 20 (asA P z1 k).natAbs ≤ 20 := Nat.le_of_dvd (by decide) (Nat.gcd_dvd_left _ _)
            refine t_X7_commonDivisor hN (by omega) ?_
            have gn : ¬ iI (Nat.gcd 20 (asA P z1 k).natAbs : Int) = 0 := by rw [iI_0, iI_eq (by omega) (by omega) (by decide) (by decide)]; omega
            rw [iI_20, iI_div (by decide) (by decide) (by omega) (by omega), iI_div (by omega) (by omega) (by omega) (by omega)]
            refine ⟨fun c3 => ⟨gn, ?_⟩, fun c3 => ⟨gn, ?_⟩⟩
            · simp (disch := omega) only [iI_m1, iI_0, iI_1, iI_2, iI_3, iI_4, iI_5, iI_6, iI_7, iI_8, iI_9, iI_10, iI_11, iI_12, iI_13, iI_16, iI_18, iI_20, iI_24, iI_31, iI_32, iI_33, iI_36, iI_48, iI_57, iI_59, iI_63, iI_64, iI_97, iI_100, iI_101, iI_130, iI_255, iI_256, iI_512, iI_1000, iI_1009, iI_2000, iI_2048, iI_32768, iI_2147483647, iI_add, iI_sub, iI_mul, iI_neg, iI_lt, iI_le, iI_eq, iI_in] at c3
              rw [ifp_f c3] at hQ
              exact hQ
            · simp (disch := omega) only [iI_m1, iI_0, iI_1, iI_2, iI_3, iI_4, iI_5, iI_6, iI_7, iI_8, iI_9, iI_10, iI_11, iI_12, iI_13, iI_16, iI_18, iI_20, iI_24, iI_31, iI_32, iI_33, iI_36, iI_48, iI_57, iI_59, iI_63, iI_64, iI_97, iI_100, iI_101, iI_130, iI_255, iI_256, iI_512, iI_1000, iI_1009, iI_2000, iI_2048, iI_32768, iI_2147483647, iI_add, iI_sub, iI_mul, iI_neg, iI_lt, iI_le, iI_eq, iI_in] at c3
              rw [ifp_t c3] at hQ
              exact hQ
          · simp (disch := omega) only [iI_m1, iI_0, iI_1, iI_2, iI_3, iI_4, iI_5, iI_6, iI_7, iI_8, iI_9, iI_10, iI_11, iI_12, iI_13, iI_16, iI_18, iI_20, iI_24, iI_31, iI_32, iI_33, iI_36, iI_48, iI_57, iI_59, iI_63, iI_64, iI_97, iI_100, iI_101, iI_130, iI_255, iI_256, iI_512, iI_1000, iI_1009, iI_2000, iI_2048, iI_32768, iI_2147483647, iI_add, iI_sub, iI_mul, iI_neg, iI_lt, iI_le, iI_eq, iI_in] at cc
            omega
        | succ r ih =>
          intro f k hk hf
          obtain ⟨f, rfl⟩ : ∃ g, f = g + 1 := ⟨f - 1, by omega⟩
          show f_X7_area_b30 N (f_X7_area_l30 N (iI z1) (iI z2) Q f) (iI z1) (iI z2) (iI (asA P z1 k)) (iI (k : Int)) M Q
          unfold f_X7_area_b30
          rw [h.2.1]
          have b63 : ∀ s : Int, s = asA P z1 (k + 1) → f_X7_area_b63 N (f_X7_area_l30 N (iI z1) (iI z2) Q f) (iI z1) (iI z2) (iI s) (iI (k : Int)) M Q := by
            intro s hs
            unfold f_X7_area_b63
            intro v e
            simp (disch := omega) only [iI_m1, iI_0, iI_1, iI_2, iI_3, iI_4, iI_5, iI_6, iI_7, iI_8, iI_9, iI_10, iI_11, iI_12, iI_13, iI_16, iI_18, iI_20, iI_24, iI_31, iI_32, iI_33, iI_36, iI_48, iI_57, iI_59, iI_63, iI_64, iI_97, iI_100, iI_101, iI_130, iI_255, iI_256, iI_512, iI_1000, iI_1009, iI_2000, iI_2048, iI_32768, iI_2147483647, iI_add, iI_sub, iI_mul, iI_neg, iI_lt, iI_le, iI_eq, iI_in] at e
            subst e
            subst hs
            exact ih f (k + 1) (by omega) (by omega)
          have b50 : (z1 = -1 ∨ z1 = (k : Int)) → f_X7_area_b50 N (f_X7_area_l30 N (iI z1) (iI z2) Q f) (iI z1) (iI z2) (iI (asA P z1 k)) (iI (k : Int)) M Q := by
            intro hz
            unfold f_X7_area_b50
            rw [clN (by omega)]
            refine ⟨iI_in0 (by omega) (by omega) (by decide), t_X0_areaParts hN (h.2.2.1 k (by omega)).2.1 ?_⟩
            intro v e
            rw [iI_add, ← asA_y hz] at e
            subst e
            exact b63 _ rfl
          refine ⟨fun cc => ?_, fun _ => ⟨fun c3 => ?_, fun c3 => ⟨fun c4 => ?_, fun c4 => ?_⟩⟩⟩
          · simp (disch := omega) only [iI_m1, iI_0, iI_1, iI_2, iI_3, iI_4, iI_5, iI_6, iI_7, iI_8, iI_9, iI_10, iI_11, iI_12, iI_13, iI_16, iI_18, iI_20, iI_24, iI_31, iI_32, iI_33, iI_36, iI_48, iI_57, iI_59, iI_63, iI_64, iI_97, iI_100, iI_101, iI_130, iI_255, iI_256, iI_512, iI_1000, iI_1009, iI_2000, iI_2048, iI_32768, iI_2147483647, iI_add, iI_sub, iI_mul, iI_neg, iI_lt, iI_le, iI_eq, iI_in] at cc
            omega
          · simp (disch := omega) only [iI_m1, iI_0, iI_1, iI_2, iI_3, iI_4, iI_5, iI_6, iI_7, iI_8, iI_9, iI_10, iI_11, iI_12, iI_13, iI_16, iI_18, iI_20, iI_24, iI_31, iI_32, iI_33, iI_36, iI_48, iI_57, iI_59, iI_63, iI_64, iI_97, iI_100, iI_101, iI_130, iI_255, iI_256, iI_512, iI_1000, iI_1009, iI_2000, iI_2048, iI_32768, iI_2147483647, iI_add, iI_sub, iI_mul, iI_neg, iI_lt, iI_le, iI_eq, iI_in] at c3
            exact b50 (Or.inl c3)
          · simp (disch := omega) only [iI_m1, iI_0, iI_1, iI_2, iI_3, iI_4, iI_5, iI_6, iI_7, iI_8, iI_9, iI_10, iI_11, iI_12, iI_13, iI_16, iI_18, iI_20, iI_24, iI_31, iI_32, iI_33, iI_36, iI_48, iI_57, iI_59, iI_63, iI_64, iI_97, iI_100, iI_101, iI_130, iI_255, iI_256, iI_512, iI_1000, iI_1009, iI_2000, iI_2048, iI_32768, iI_2147483647, iI_add, iI_sub, iI_mul, iI_neg, iI_lt, iI_le, iI_eq, iI_in] at c3 c4
            refine b63 _ (asA_n (fun w => w.elim c3 c4)).symm
          · simp (disch := omega) only [iI_m1, iI_0, iI_1, iI_2, iI_3, iI_4, iI_5, iI_6, iI_7, iI_8, iI_9, iI_10, iI_11, iI_12, iI_13, iI_16, iI_18, iI_20, iI_24, iI_31, iI_32, iI_33, iI_36, iI_48, iI_57, iI_59, iI_63, iI_64, iI_97, iI_100, iI_101, iI_130, iI_255, iI_256, iI_512, iI_1000, iI_1009, iI_2000, iI_2048, iI_32768, iI_2147483647, iI_add, iI_sub, iI_mul, iI_neg, iI_lt, iI_le, iI_eq, iI_in] at c4
            exact b50 (Or.inr c4)
      exact lp n N 0 (by omega) (by omega)
    · simp (disch := omega) only [iI_m1, iI_0, iI_1, iI_2, iI_3, iI_4, iI_5, iI_6, iI_7, iI_8, iI_9, iI_10, iI_11, iI_12, iI_13, iI_16, iI_18, iI_20, iI_24, iI_31, iI_32, iI_33, iI_36, iI_48, iI_57, iI_59, iI_63, iI_64, iI_97, iI_100, iI_101, iI_130, iI_255, iI_256, iI_512, iI_1000, iI_1009, iI_2000, iI_2048, iI_32768, iI_2147483647, iI_add, iI_sub, iI_mul, iI_neg, iI_lt, iI_le, iI_eq, iI_in] at c2
      rw [ifp_f (by omega)] at hQ
      exact hQ
  refine ⟨fun c => ?_, fun c => ?_⟩
  · simp (disch := omega) only [iI_m1, iI_0, iI_1, iI_2, iI_3, iI_4, iI_5, iI_6, iI_7, iI_8, iI_9, iI_10, iI_11, iI_12, iI_13, iI_16, iI_18, iI_20, iI_24, iI_31, iI_32, iI_33, iI_36, iI_48, iI_57, iI_59, iI_63, iI_64, iI_97, iI_100, iI_101, iI_130, iI_255, iI_256, iI_512, iI_1000, iI_1009, iI_2000, iI_2048, iI_32768, iI_2147483647, iI_add, iI_sub, iI_mul, iI_neg, iI_lt, iI_le, iI_eq, iI_in] at c
    exact b13 (Or.inl c)
  · simp (disch := omega) only [iI_m1, iI_0, iI_1, iI_2, iI_3, iI_4, iI_5, iI_6, iI_7, iI_8, iI_9, iI_10, iI_11, iI_12, iI_13, iI_16, iI_18, iI_20, iI_24, iI_31, iI_32, iI_33, iI_36, iI_48, iI_57, iI_59, iI_63, iI_64, iI_97, iI_100, iI_101, iI_130, iI_255, iI_256, iI_512, iI_1000, iI_1009, iI_2000, iI_2048, iI_32768, iI_2147483647, iI_add, iI_sub, iI_mul, iI_neg, iI_lt, iI_le, iI_eq, iI_in] at c
    refine t_X7_isArc h.1 h.2.1 h1.1 h1.2 (fun a e1 l1 => ?_) (fun w => ?_)
    · exact ⟨fun e => absurd e (by decide), fun _ => b13 (Or.inr (by omega))⟩
    · rw [ifp_f (by omega)] at hQ
      exact ⟨fun _ => hQ, fun e => absurd rfl e⟩
theorem t_X8_crossOf {N n a i j : Nat} {P : Nat → Nat → Int} {M : zMem} {Q : Int32 → zMem → Prop} (hS : SR n P M) (ha : a < n) (hi : i < 4) (hj : j < 4) (hQ : Q (iI (cxA (P a) i j)) M) : f_X8_crossOf N (iI (a : Int)) (iI (i : Int)) (iI (j : Int)) M Q := by
  unfold f_X8_crossOf
  have hn := hS.1
  have hp := (hS.2.2 a ha).1
  intro v1 e
  rw [iI_8, iI_mul] at e
  subst e
  have e1 : iI (8 * (a : Int)) + (2 : Int32) * iI (i : Int) = iI ((8 * a + 2 * i : Nat) : Int) := by rw [iI_2, iI_mul, iI_add]; congr 1 <;> omega
  have e2 : iI (8 * (a : Int)) + (2 : Int32) * iI (j : Int) = iI ((8 * a + 2 * j : Nat) : Int) := by rw [iI_2, iI_mul, iI_add]; congr 1 <;> omega
  have e3 : iI ((8 * a + 2 * i : Nat) : Int) + 1 = iI ((8 * a + (2 * i + 1) : Nat) : Int) := by rw [iI_1, iI_add]; rfl
  have e4 : iI ((8 * a + 2 * j : Nat) : Int) + 1 = iI ((8 * a + (2 * j + 1) : Nat) : Int) := by rw [iI_1, iI_add]; rfl
  rw [e1, e2, e3, e4]
  refine ⟨iI_in0 (by omega) (by omega) (by decide), iI_in0 (by omega) (by omega) (by decide), iI_in0 (by omega) (by omega) (by decide), iI_in0 (by omega) (by omega) (by decide), ?_⟩
  have rr : ∀ k : Nat, k < 8 → zrd M 48 (iI ((8 * a + k : Nat) : Int)) = iI (P a k) := fun k hk => by rw [zrd_iI (by omega) (by omega), toN]; exact (hS.2.2 a ha).2 k hk
  rw [rr _ (by omega), rr _ (by omega), rr _ (by omega), rr _ (by omega)]
  have q1 := hp (2 * i) (by omega)
  have q2 := hp (2 * i + 1) (by omega)
  have q3 := hp (2 * j) (by omega)
  have q4 := hp (2 * j + 1) (by omega)
  unfold f_X8_cross
  rw [iI_l (by omega) (by omega), iI_l (by omega) (by omega), iI_l (by omega) (by omega), iI_l (by omega) (by omega), lI_mul, lI_mul, lI_sub]
  show Q (lI (P a (2 * i) * P a (2 * j + 1) - P a (2 * i + 1) * P a (2 * j))).toInt32 M
  rw [lI_i]
  exact hQ
theorem t_X8_areaOf {N n a : Nat} {P : Nat → Nat → Int} {M : zMem} {Q : Int32 → zMem → Prop} (hS : SR n P M) (ha : a < n) (hQ : Q (iI (arA (P a))) M) : f_X8_areaOf N (iI (a : Int)) M Q := by
  unfold f_X8_areaOf
  refine t_X8_crossOf (i := 0) (j := 1) hS ha (by decide) (by decide) ?_
  refine t_X8_crossOf (i := 0) (j := 2) hS ha (by decide) (by decide) ?_
  refine t_X8_crossOf (i := 0) (j := 3) hS ha (by decide) (by decide) ?_
  refine t_X8_crossOf (i := 1) (j := 2) hS ha (by decide) (by decide) ?_
  refine t_X8_crossOf (i := 1) (j := 3) hS ha (by decide) (by decide) ?_
  refine t_X8_crossOf (i := 2) (j := 3) hS ha (by decide) (by decide) ?_
  rw [iI_6, iI_3, iI_mul, iI_mul, iI_mul, iI_mul, iI_mul, iI_add, iI_add, iI_add, iI_add, iI_add]
  exact hQ
theorem r_area {N n : Nat} {P : Nat → Nat → Int} {T : TxS} {H : HiS} {I : ImS} {E : SeS} {z1 z2 : Int} {M : zMem} {Q : Int32 → zMem → Prop} (hN : 20000 ≤ N) (h : RR n P T H I E M) (h1 : -2147483648 ≤ z1 ∧ z1 < 2147483648) (h2 : -2147483648 ≤ z2 ∧ z2 < 2147483648) (hQ : ∀ M', fz 47 62 M M' → RR n P T H I E M' → Q (iI (vArea n P z1 z2)) M') : f_X8_area N (iI z1) (iI z2) M Q := by
  unfold f_X8_area
  intro M1 e
  have f1 : fz 47 62 M M1 := by rw [e]; exact fz_0
  have r1 : RR n P T H I E M1 := by rw [e]; exact RR_0 h
  have hn := RR_n r1.1
  have hQ := hQ M1 f1 r1
  unfold vArea at hQ
  have b18 : (z1 = -1 ∨ (0 ≤ z1 ∧ z1 < n)) → f_X8_area_b18 N (iI z1) (iI z2) M1 Q := by
    intro hv
    unfold f_X8_area_b18
    refine t_X8_upTo (h := 1) h2.1 h2.2 (by decide) (fun w e2 l2 => ?_) (fun w => ?_)
    · rw [ifp_t (by omega)] at hQ
      refine ⟨fun _ => ?_, fun e => absurd e (by decide)⟩
      have hb := asA_bd (z := z1) n (fun a ha => (r1.1.1.2.2 a ha).1)
      have eu : ∀ (s x y f : Nat), y ≤ s → s + 1 ≤ f → x ≤ 20000 → y ≤ 20000 → Nat.gcd x y = Nat.gcd 20 (asA P z1 n).natAbs → f_X8_area_l90 N (iI z2) (iI (asA P z1 n)) Q f (iI (x : Int)) (iI (y : Int)) M1 := by
        intro s
        induction s with
        | zero =>
          intro x y f hy hf hx hy2 hg
          obtain ⟨f, rfl⟩ : ∃ g, f = g + 1 := ⟨f - 1, by omega⟩
          obtain rfl : y = 0 := by omega
          show f_X8_area_b90 N (f_X8_area_l90 N (iI z2) (iI (asA P z1 n)) Q f) (iI z2) (iI (asA P z1 n)) (iI (x : Int)) (iI ((0 : Nat) : Int)) M1 Q
          unfold f_X8_area_b90
          rw [Nat.gcd_zero_right] at hg
          have gp : 0 < Nat.gcd 20 (asA P z1 n).natAbs := Nat.gcd_pos_of_pos_left _ (by decide)
          have xn : ¬ iI (x : Int) = 0 := by rw [iI_0, iI_eq (by omega) (by omega) (by decide) (by decide)]; omega
          rw [← hg] at hQ
          rw [iI_20, iI_div (by decide) (by decide) (by omega) (by omega), iI_div (by omega) (by omega) (by omega) (by omega)]
          refine ⟨fun _ => ⟨fun c3 => ⟨xn, ?_⟩, fun c3 => ⟨xn, ?_⟩⟩, fun e => absurd rfl e⟩
          · simp (disch := omega) only [iI_m1, iI_0, iI_1, iI_2, iI_3, iI_4, iI_5, iI_6, iI_7, iI_8, iI_9, iI_10, iI_11, iI_12, iI_13, iI_16, iI_18, iI_20, iI_24, iI_31, iI_32, iI_33, iI_36, iI_48, iI_57, iI_59, iI_63, iI_64, iI_97, iI_100, iI_101, iI_130, iI_255, iI_256, iI_512, iI_1000, iI_1009, iI_2000, iI_2048, iI_32768, iI_2147483647, iI_add, iI_sub, iI_mul, iI_neg, iI_lt, iI_le, iI_eq, iI_in] at c3
            rw [ifp_f c3] at hQ
            exact hQ
          · simp (disch := omega) only [iI_m1, iI_0, iI_1, iI_2, iI_3, iI_4, iI_5, iI_6, iI_7, iI_8, iI_9, iI_10, iI_11, iI_12, iI_13, iI_16, iI_18, iI_20, iI_24, iI_31, iI_32, iI_33, iI_36, iI_48, iI_57, iI_59, iI_63, iI_64, iI_97, iI_100, iI_101, iI_130, iI_255, iI_256, iI_512, iI_1000, iI_1009, iI_2000, iI_2048, iI_32768, iI_2147483647, iI_add, iI_sub, iI_mul, iI_neg, iI_lt, iI_le, iI_eq, iI_in] at c3
            rw [ifp_t c3] at hQ
            exact hQ
        | succ s ih =>
          intro x y f hy hf hx hy2 hg
          by_cases hy0 : y = 0
          · exact ih x y f (by omega) (by omega) hx hy2 hg
          · obtain ⟨f, rfl⟩ : ∃ g, f = g + 1 := ⟨f - 1, by omega⟩
            show f_X8_area_b90 N (f_X8_area_l90 N (iI z2) (iI (asA P z1 n)) Q f) (iI z2) (iI (asA P z1 n)) (iI (x : Int)) (iI (y : Int)) M1 Q
            unfold f_X8_area_b90
            have yn : ¬ iI (y : Int) = 0 := by rw [iI_0, iI_eq (by omega) (by omega) (by decide) (by decide)]; omega
            refine ⟨fun e => absurd e yn, fun _ => ⟨yn, fun v e => ?_⟩⟩
            have hm := Nat.mod_lt x (show 0 < y by omega)
            have e2 : (x : Int) - (x : Int).tdiv (y : Int) * (y : Int) = ((x % y : Nat) : Int) := by
              have e3 : ((x : Int).tdiv (y : Int)) * (y : Int) = ((x / y * y : Nat) : Int) := rfl
              rw [e3]
              have h5 := Nat.div_add_mod x y
              rw [Nat.mul_comm] at h5
              omega
            rw [iI_div (by omega) (by omega) (by omega) (by omega), iI_mul, iI_sub, e2] at e
            subst e
            refine ih y (x % y) f (by omega) (by omega) (by omega) (by omega) ?_
            rw [← hg, Nat.gcd_comm y (x % y), ← Nat.gcd_rec, Nat.gcd_comm]
      have lp : ∀ (r f k : Nat), r + k = n → r + 1 ≤ f → f_X8_area_l35 N (iI z1) (iI z2) Q f (iI (asA P z1 k)) (iI (k : Int)) M1 := by
        intro r
        induction r with
        | zero =>
          intro f k hk hf
          obtain ⟨f, rfl⟩ : ∃ g, f = g + 1 := ⟨f - 1, by omega⟩
          show f_X8_area_b35 N (f_X8_area_l35 N (iI z1) (iI z2) Q f) (iI z1) (iI z2) (iI (asA P z1 k)) (iI (k : Int)) M1 Q
          unfold f_X8_area_b35
          obtain rfl : k = n := by omega
          rw [hn.2]
          refine ⟨fun _ => ⟨fun c => ?_, fun c => ?_⟩, fun cc => ?_⟩
          · unfold f_X8_area_b88
            simp (disch := omega) only [iI_m1, iI_0, iI_1, iI_2, iI_3, iI_4, iI_5, iI_6, iI_7, iI_8, iI_9, iI_10, iI_11, iI_12, iI_13, iI_16, iI_18, iI_20, iI_24, iI_31, iI_32, iI_33, iI_36, iI_48, iI_57, iI_59, iI_63, iI_64, iI_97, iI_100, iI_101, iI_130, iI_255, iI_256, iI_512, iI_1000, iI_1009, iI_2000, iI_2048, iI_32768, iI_2147483647, iI_add, iI_sub, iI_mul, iI_neg, iI_lt, iI_le, iI_eq, iI_in] at c
            have := eu (asA P z1 k).natAbs 20 (asA P z1 k).natAbs N (Nat.le_refl _) (by omega) (by decide) (by omega) rfl
            rw [show ((asA P z1 k).natAbs : Int) = asA P z1 k by omega] at this
            exact this
          · unfold f_X8_area_b88
            simp (disch := omega) only [iI_m1, iI_0, iI_1, iI_2, iI_3, iI_4, iI_5, iI_6, iI_7, iI_8, iI_9, iI_10, iI_11, iI_12, iI_13, iI_16, iI_18, iI_20, iI_24, iI_31, iI_32, iI_33, iI_36, iI_48, iI_57, iI_59, iI_63, iI_64, iI_97, iI_100, iI_101, iI_130, iI_255, iI_256, iI_512, iI_1000, iI_1009, iI_2000, iI_2048, iI_32768, iI_2147483647, iI_add, iI_sub, iI_mul, iI_neg, iI_lt, iI_le, iI_eq, iI_in] at c
            have := eu (asA P z1 k).natAbs 20 (asA P z1 k).natAbs N (Nat.le_refl _) (by omega) (by decide) (by omega) rfl
            rw [show ((asA P z1 k).natAbs : Int) = -(asA P z1 k) by omega, ← iI_neg] at this
            exact this
          · simp (disch := omega) only [iI_m1, iI_0, iI_1, iI_2, iI_3, iI_4, iI_5, iI_6, iI_7, iI_8, iI_9, iI_10, iI_11, iI_12, iI_13, iI_16, iI_18, iI_20, iI_24, iI_31, iI_32, iI_33, iI_36, iI_48, iI_57, iI_59, iI_63, iI_64, iI_97, iI_100, iI_101, iI_130, iI_255, iI_256, iI_512, iI_1000, iI_1009, iI_2000, iI_2048, iI_32768, iI_2147483647, iI_add, iI_sub, iI_mul, iI_neg, iI_lt, iI_le, iI_eq, iI_in] at cc
            omega
        | succ r ih =>
          intro f k hk hf
          obtain ⟨f, rfl⟩ : ∃ g, f = g + 1 := ⟨f - 1, by omega⟩
          show f_X8_area_b35 N (f_X8_area_l35 N (iI z1) (iI z2) Q f) (iI z1) (iI z2) (iI (asA P z1 k)) (iI (k : Int)) M1 Q
          unfold f_X8_area_b35
          rw [hn.2]
          have b66 : ∀ s : Int, asA P z1 k + s = asA P z1 (k + 1) → f_X8_area_b66 N (f_X8_area_l35 N (iI z1) (iI z2) Q f) (iI z1) (iI z2) (iI (k : Int)) (iI (asA P z1 k)) (iI s) M1 Q := by
            intro s hs
            unfold f_X8_area_b66
            intro v e v' e'
            rw [iI_add, hs] at e
            simp (disch := omega) only [iI_m1, iI_0, iI_1, iI_2, iI_3, iI_4, iI_5, iI_6, iI_7, iI_8, iI_9, iI_10, iI_11, iI_12, iI_13, iI_16, iI_18, iI_20, iI_24, iI_31, iI_32, iI_33, iI_36, iI_48, iI_57, iI_59, iI_63, iI_64, iI_97, iI_100, iI_101, iI_130, iI_255, iI_256, iI_512, iI_1000, iI_1009, iI_2000, iI_2048, iI_32768, iI_2147483647, iI_add, iI_sub, iI_mul, iI_neg, iI_lt, iI_le, iI_eq, iI_in] at e'
            subst e; subst e'
            exact ih f (k + 1) (by omega) (by omega)
          have b56 : (z1 = -1 ∨ z1 = (k : Int)) → f_X8_area_b56 N (f_X8_area_l35 N (iI z1) (iI z2) Q f) (iI z1) (iI z2) (iI (k : Int)) (iI (asA P z1 k)) M1 Q := by
            intro hz
            unfold f_X8_area_b56
            refine t_X8_areaOf r1.1.1 (by omega) ?_
            exact b66 _ (asA_y hz).symm
          refine ⟨fun cc => ?_, fun _ => ⟨fun c3 => ?_, fun c3 => ⟨fun c4 => ?_, fun c4 => ?_⟩⟩⟩
          · simp (disch := omega) only [iI_m1, iI_0, iI_1, iI_2, iI_3, iI_4, iI_5, iI_6, iI_7, iI_8, iI_9, iI_10, iI_11, iI_12, iI_13, iI_16, iI_18, iI_20, iI_24, iI_31, iI_32, iI_33, iI_36, iI_48, iI_57, iI_59, iI_63, iI_64, iI_97, iI_100, iI_101, iI_130, iI_255, iI_256, iI_512, iI_1000, iI_1009, iI_2000, iI_2048, iI_32768, iI_2147483647, iI_add, iI_sub, iI_mul, iI_neg, iI_lt, iI_le, iI_eq, iI_in] at cc
            omega
          · simp (disch := omega) only [iI_m1, iI_0, iI_1, iI_2, iI_3, iI_4, iI_5, iI_6, iI_7, iI_8, iI_9, iI_10, iI_11, iI_12, iI_13, iI_16, iI_18, iI_20, iI_24, iI_31, iI_32, iI_33, iI_36, iI_48, iI_57, iI_59, iI_63, iI_64, iI_97, iI_100, iI_101, iI_130, iI_255, iI_256, iI_512, iI_1000, iI_1009, iI_2000, iI_2048, iI_32768, iI_2147483647, iI_add, iI_sub, iI_mul, iI_neg, iI_lt, iI_le, iI_eq, iI_in] at c3
            exact b56 (Or.inl c3)
          · simp (disch := omega) only [iI_m1, iI_0, iI_1, iI_2, iI_3, iI_4, iI_5, iI_6, iI_7, iI_8, iI_9, iI_10, iI_11, iI_12, iI_13, iI_16, iI_18, iI_20, iI_24, iI_31, iI_32, iI_33, iI_36, iI_48, iI_57, iI_59, iI_63, iI_64, iI_97, iI_100, iI_101, iI_130, iI_255, iI_256, iI_512, iI_1000, iI_1009, iI_2000, iI_2048, iI_32768, iI_2147483647, iI_add, iI_sub, iI_mul, iI_neg, iI_lt, iI_le, iI_eq, iI_in] at c3 c4
            refine b66 0 ?_
            rw [Int.add_zero]
            exact (asA_n (fun w => w.elim c3 c4)).symm
          · simp (disch := omega) only [iI_m1, iI_0, iI_1, iI_2, iI_3, iI_4, iI_5, iI_6, iI_7, iI_8, iI_9, iI_10, iI_11, iI_12, iI_13, iI_16, iI_18, iI_20, iI_24, iI_31, iI_32, iI_33, iI_36, iI_48, iI_57, iI_59, iI_63, iI_64, iI_97, iI_100, iI_101, iI_130, iI_255, iI_256, iI_512, iI_1000, iI_1009, iI_2000, iI_2048, iI_32768, iI_2147483647, iI_add, iI_sub, iI_mul, iI_neg, iI_lt, iI_le, iI_eq, iI_in] at c4
            exact b56 (Or.inr c4)
      exact lp n N 0 (by omega) (by omega)
    · rw [ifp_f (by omega)] at hQ
      exact ⟨fun e => absurd rfl e, fun _ => hQ⟩
  refine ⟨fun c => ?_, fun c => ?_⟩
  · simp (disch := omega) only [iI_m1, iI_0, iI_1, iI_2, iI_3, iI_4, iI_5, iI_6, iI_7, iI_8, iI_9, iI_10, iI_11, iI_12, iI_13, iI_16, iI_18, iI_20, iI_24, iI_31, iI_32, iI_33, iI_36, iI_48, iI_57, iI_59, iI_63, iI_64, iI_97, iI_100, iI_101, iI_130, iI_255, iI_256, iI_512, iI_1000, iI_1009, iI_2000, iI_2048, iI_32768, iI_2147483647, iI_add, iI_sub, iI_mul, iI_neg, iI_lt, iI_le, iI_eq, iI_in] at c
    exact b18 (Or.inl c)
  · simp (disch := omega) only [iI_m1, iI_0, iI_1, iI_2, iI_3, iI_4, iI_5, iI_6, iI_7, iI_8, iI_9, iI_10, iI_11, iI_12, iI_13, iI_16, iI_18, iI_20, iI_24, iI_31, iI_32, iI_33, iI_36, iI_48, iI_57, iI_59, iI_63, iI_64, iI_97, iI_100, iI_101, iI_130, iI_255, iI_256, iI_512, iI_1000, iI_1009, iI_2000, iI_2048, iI_32768, iI_2147483647, iI_add, iI_sub, iI_mul, iI_neg, iI_lt, iI_le, iI_eq, iI_in] at c
    refine t_X8_isArc hn.1 hn.2 h1.1 h1.2 (fun a e1 l1 => ?_) (fun w => ?_)
    · exact ⟨fun e => absurd e (by decide), fun _ => b18 (Or.inr (by omega))⟩
    · rw [ifp_f (by omega)] at hQ
      exact ⟨fun _ => hQ, fun e => absurd rfl e⟩
