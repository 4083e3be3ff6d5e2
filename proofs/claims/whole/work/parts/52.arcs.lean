/-! ===== arcs: the component ===== -/
noncomputable def RdT (T : TxS) : PR := FP T T.1 0 (0, -1, false, fun _ => 0)
noncomputable def pNew (T : TxS) : Nat → Nat → Int := fun a k => (RdT T).2.2 (8 * a + k)
def iNo (I : ImS) : ImS := ((fun _ => False), I.2)
theorem t_X2_drop {N : Nat} {M : zMem} {Q : zMem → Prop} (hN : 10 ≤ N) (hQ : ∀ M', fz 33 33 M M' → M'.1 33 0 = iI 0 → M'.1 33 1 = iI 0 → Q M') : f_X2_drop N M Q := by
  unfold f_X2_drop
  obtain ⟨k, rfl⟩ : ∃ k, N = k + 3 := ⟨N - 3, by omega⟩
  show f_X2_drop_b2 (k + 3) (f_X2_drop_l2 (k + 3) Q (k + 2)) (iI ((0 : Nat) : Int)) M Q
  unfold f_X2_drop_b2
  refine ⟨fun c => absurd c (by decide), fun _ => ⟨iI_in0 (by decide) (by decide) (by decide), fun M1 e1 v2 e2 => ?_⟩⟩
  rw [nar_0, zst_iI (by decide) (by decide)] at e1
  subst e2
  show f_X2_drop_b2 (k + 3) (f_X2_drop_l2 (k + 3) Q (k + 1)) (iI ((1 : Nat) : Int)) M1 Q
  unfold f_X2_drop_b2
  refine ⟨fun c => absurd c (by decide), fun _ => ⟨iI_in0 (by decide) (by decide) (by decide), fun M2 e2 v3 e3 => ?_⟩⟩
  rw [nar_0, zst_iI (by decide) (by decide)] at e2
  subst e3
  show f_X2_drop_b2 (k + 3) (f_X2_drop_l2 (k + 3) Q k) (iI ((2 : Nat) : Int)) M2 Q
  unfold f_X2_drop_b2
  refine ⟨fun _ => hQ M2 ?_ ?_ ?_, fun c => absurd (by decide) c⟩
  · subst e1; subst e2
    exact (fz_wI (by decide) (by decide)).tr (fz_wI (by decide) (by decide))
  · subst e1; subst e2
    rw [zwI_1, if_neg (by decide), zwI_1, if_pos ⟨rfl, rfl⟩]
  · subst e1; subst e2
    rw [zwI_1, if_pos ⟨rfl, rfl⟩]
theorem c_arcs {N n : Nat} {P : Nat → Nat → Int} {T : TxS} {H : HiS} {I : ImS} {E : SeS} {M : zMem} {Q : Int32 → zMem → Prop} (hN : 300 ≤ N) (h : RC n P T H I E M) (hQ0 : (RdT T).1 ≠ -1 → ∀ M', fz 0 46 M M' → RC n P T H I E M' → Q (iI (-10 - (RdT T).1)) M') (hQ1 : (RdT T).1 = -1 → ∀ M', fz 0 46 M M' → RC (RdT T).2.1 (pNew T) (0, T.2) (0, H.2) (iNo I) (0, E.2) M' → Q (iI ((RdT T).2.1 : Int)) M') : f_X7_arcs N M Q := by
  unfold f_X7_arcs
  refine c_findFault (by omega) h.2.1 ?_
  show ∀ M', fR M M' → ((RdT T).1 = -1 → (RdT T).2.1 ≤ 4 ∧ M'.1 1 3 = iI ((RdT T).2.1 : Int) ∧ ∀ k, k < 8 * (RdT T).2.1 → (-9 ≤ (RdT T).2.2 k ∧ (RdT T).2.2 k ≤ 9) ∧ M'.1 3 k = iI ((RdT T).2.2 k)) → (-1 ≤ (RdT T).1 ∧ (RdT T).1 ≤ 130) → ((iI (RdT T).1 = -1 → _) ∧ (¬ iI (RdT T).1 = -1 → _))
  intro M2 f2 s2 b2
  rw [iI_m1, iI_eq (by omega) (by omega) (by decide) (by decide)]
  refine ⟨fun c => ?_, fun c => ?_⟩
  · obtain ⟨n4, q3, q4⟩ := s2 c
    have hQ := hQ1 c
    unfold f_X5_empties
    intro v3 e3 M4 e4 M5 e5
    have f4 : fz 1 1 M2 M4 := by subst e4; exact fz_wI (by decide) (by decide)
    have n3 : M4.1 1 3 = iI ((RdT T).2.1 : Int) := by subst e4; rw [zwI_1, if_neg (by decide)]; exact q3
    rw [n3] at e5
    have f5 : fz 0 0 M4 M5 := by subst e5; exact fz_wI (by decide) (by decide)
    have z5 : M5.1 0 2 = iI ((RdT T).2.1 : Int) := by subst e5; rw [zwI_1, if_pos ⟨rfl, rfl⟩]
    have t5 : M5.1 1 1 = iI 0 := by rw [(f5 1 (by omega)).1]; subst e4; rw [zwI_1, if_pos ⟨rfl, rfl⟩]; rfl
    have k5 : ∀ k, k < 8 * (RdT T).2.1 → M5.1 3 k = iI ((RdT T).2.2 k) := fun k hk => by rw [(f5 3 (by omega)).1, (f4 3 (by omega)).1]; exact (q4 k hk).2
    have ok : ∀ a, a < (RdT T).2.1 → pOk (pNew T a) := fun a ha k hk => (q4 (8 * a + k) (by omega)).1
    have lp : ∀ (r f k : Nat) (M' : zMem), r + k = (RdT T).2.1 → r + 1 ≤ f → fz 5 28 M5 M' → (∀ a, a < k → RA (pNew T a) (5 + 6 * a) M') → f_X7_arcs_l39 N Q f (iI (k : Int)) M' := by
      intro r
      induction r with
      | zero =>
        intro f k M' hk hf f1 q1
        obtain ⟨f, rfl⟩ : ∃ g, f = g + 1 := ⟨f - 1, by omega⟩
        show f_X7_arcs_b39 N (f_X7_arcs_l39 N Q f) (iI (k : Int)) M' Q
        unfold f_X7_arcs_b39
        rw [(f1 0 (by omega)).1, z5]
        refine ⟨fun _ M6 e6 M7 e7 => ?_, fun cc => ?_⟩
        · have f6 : fz 29 29 M' M6 := by subst e6; exact fz_wI (by decide) (by decide)
          have f7 : fz 35 35 M6 M7 := by subst e7; exact fz_wI (by decide) (by decide)
          refine t_X2_drop (by omega) (fun M9 f9 d0 d1 => ?_)
          refine t_X3_outdate (by omega) (fun M11 f11 c11 => ?_)
          have all : ∀ c, (c < 5 ∨ (28 < c ∧ c ≠ 29 ∧ c ≠ 35 ∧ c ≠ 33 ∧ c < 38)) → M11.1 c = M5.1 c := fun c hc => by rw [(f11 c (by omega)).1, (f9 c (by omega)).1, (f7 c (by omega)).1, (f6 c (by omega)).1, (f1 c (by omega)).1]
          have z11 : M11.1 0 2 = iI ((RdT T).2.1 : Int) := by rw [all 0 (by omega)]; exact z5
          rw [z11]
          refine hQ M11 (((((((fz_wide f2.1 (by omega) (by omega)).tr (fz_wide f4 (by omega) (by omega))).tr (fz_wide f5 (by omega) (by omega))).tr (fz_wide f1 (by omega) (by omega))).tr (fz_wide f6 (by omega) (by omega))).tr (fz_wide f7 (by omega) (by omega))).tr ((fz_wide f9 (by omega) (by omega)).tr (fz_wide f11 (by omega) (by omega)))) ⟨⟨n4, z11, fun a ha => ?_, (c11 _ _).1, (c11 _ _).2⟩, ⟨Nat.zero_le _, ?_, fun k hk => absurd hk (Nat.not_lt_zero k)⟩, ⟨Nat.zero_le _, ?_, fun k hk => absurd hk (Nat.not_lt_zero k)⟩, fun i hi => Or.inl ⟨fun w => w, ?_⟩, ⟨Nat.zero_le _, ?_, fun k hk => absurd hk (Nat.not_lt_zero k)⟩⟩
          · exact ((((q1 a (by omega)).fz f6 (by omega)).fz f7 (by omega)).fz f9 (by omega)).fz f11 (by omega)
          · rw [all 1 (by omega)]
            exact t5
          · rw [(f11 29 (by omega)).1, (f9 29 (by omega)).1, (f7 29 (by omega)).1]
            subst e6
            rw [zwI_1, if_pos ⟨rfl, rfl⟩]
            rfl
          · rw [(f11 33 (by omega)).1]
            rcases (show i = 0 ∨ i = 1 by omega) with rfl | rfl
            · exact d0
            · exact d1
          · rw [(f11 35 (by omega)).1, (f9 35 (by omega)).1]
            subst e7
            rw [zwI_1, if_pos ⟨rfl, rfl⟩]
            rfl
        · simp (disch := omega) only [iI_m1, iI_0, iI_1, iI_2, iI_3, iI_4, iI_5, iI_6, iI_7, iI_8, iI_9, iI_10, iI_11, iI_12, iI_13, iI_16, iI_18, iI_20, iI_24, iI_31, iI_32, iI_33, iI_36, iI_48, iI_57, iI_59, iI_63, iI_64, iI_97, iI_100, iI_101, iI_130, iI_255, iI_256, iI_512, iI_1000, iI_1009, iI_2000, iI_2048, iI_32768, iI_2147483647, iI_add, iI_sub, iI_mul, iI_neg, iI_lt, iI_le, iI_eq, iI_in] at cc
          omega
      | succ r ih =>
        intro f k M' hk hf f1 q1
        obtain ⟨f, rfl⟩ : ∃ g, f = g + 1 := ⟨f - 1, by omega⟩
        show f_X7_arcs_b39 N (f_X7_arcs_l39 N Q f) (iI (k : Int)) M' Q
        unfold f_X7_arcs_b39
        rw [(f1 0 (by omega)).1, z5]
        refine ⟨fun cc => ?_, fun _ => ⟨iI_in0 (by omega) (by omega) (by decide), ?_⟩⟩
        · simp (disch := omega) only [iI_m1, iI_0, iI_1, iI_2, iI_3, iI_4, iI_5, iI_6, iI_7, iI_8, iI_9, iI_10, iI_11, iI_12, iI_13, iI_16, iI_18, iI_20, iI_24, iI_31, iI_32, iI_33, iI_36, iI_48, iI_57, iI_59, iI_63, iI_64, iI_97, iI_100, iI_101, iI_130, iI_255, iI_256, iI_512, iI_1000, iI_1009, iI_2000, iI_2048, iI_32768, iI_2147483647, iI_add, iI_sub, iI_mul, iI_neg, iI_lt, iI_le, iI_eq, iI_in] at cc
          omega
        · have e8 : iI (k : Int) * (8 : Int32) = iI ((8 * k : Nat) : Int) := by rw [iI_8, iI_mul]; congr 1 <;> omega
          rw [e8, clN (by omega)]
          refine t_X0_takes (by omega) (ok k (by omega)) (by omega) (by rw [show zln 3 = 32 by decide]; omega) (by omega) (fun j hj => by rw [(f1 3 (by omega)).1]; exact k5 _ (by omega)) (fun M10 f10 a10 => ?_)
          intro v e
          simp (disch := omega) only [iI_m1, iI_0, iI_1, iI_2, iI_3, iI_4, iI_5, iI_6, iI_7, iI_8, iI_9, iI_10, iI_11, iI_12, iI_13, iI_16, iI_18, iI_20, iI_24, iI_31, iI_32, iI_33, iI_36, iI_48, iI_57, iI_59, iI_63, iI_64, iI_97, iI_100, iI_101, iI_130, iI_255, iI_256, iI_512, iI_1000, iI_1009, iI_2000, iI_2048, iI_32768, iI_2147483647, iI_add, iI_sub, iI_mul, iI_neg, iI_lt, iI_le, iI_eq, iI_in] at e
          subst e
          refine ih f (k + 1) M10 (by omega) (by omega) (f1.tr (fz_wide f10 (by omega) (by omega))) (fun a ha => ?_)
          by_cases hak : a = k
          · subst hak; exact a10
          · exact (q1 a (by omega)).fz f10 (by omega)
    exact lp (RdT T).2.1 N 0 M5 (by omega) (by omega) fz.rf (fun a ha => absurd ha (Nat.not_lt_zero a))
  · rw [show (-10 : Int32) = iI (-10) from rfl, iI_sub]
    exact hQ0 c M2 (fz_wide f2.1 (by omega) (by omega)) ⟨cA_fz h.1 f2.1 (by omega), cT_fR h.2.1 f2, cH_fz h.2.2.1 f2.1 (by omega), cI_fz h.2.2.2.1 f2.1 (by omega), cS_fz h.2.2.2.2 f2.1 (by omega)⟩
