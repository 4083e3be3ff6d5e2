/-! ===== the reference's changes ===== -/
theorem iI_288 : (288 : Int32) = iI 288 := rfl
theorem t_X8_m9 {N : Nat} {z : Int} {M : zMem} {Q : Int32 → zMem → Prop} (hz : -2147483648 ≤ z ∧ z < 2147483648) (hQ1 : -9 ≤ z ∧ z ≤ 9 → Q (iI 1) M) (hQ0 : ¬ (-9 ≤ z ∧ z ≤ 9) → Q (iI 0) M) : f_X8_in N (iI z) (-9 : Int32) (9 : Int32) M Q :=
  t_X8_in (lo := -9) (hi := 9) hz (by decide) (by decide) hQ1 hQ0
theorem t_X8_m18 {N : Nat} {z : Int} {M : zMem} {Q : Int32 → zMem → Prop} (hz : -2147483648 ≤ z ∧ z < 2147483648) (hQ1 : -18 ≤ z ∧ z ≤ 18 → Q (iI 1) M) (hQ0 : ¬ (-18 ≤ z ∧ z ≤ 18) → Q (iI 0) M) : f_X8_in N (iI z) (-18 : Int32) (18 : Int32) M Q :=
  t_X8_in (lo := -18) (hi := 18) hz (by decide) (by decide) hQ1 hQ0
theorem t_X8_notes_b49 {N m : Nat} {M : zMem} {Q : zMem → Prop} (hN : 400 ≤ N) (hm : m < 10) (h4 : M.1 47 4 = iI (m : Int)) (hQ : ∀ M', fz 47 62 M M' → (∀ c k, ¬ (c = 49 ∧ 32 * m ≤ k ∧ k < 32 * m + 32) → ¬ (c = 47 ∧ (k = 4 ∨ k = 11)) → M'.1 c k = M.1 c k) → M'.1 47 11 = 0 → M'.1 47 4 = iI ((m + 1 : Nat) : Int) → (∀ j, j < 32 → M'.1 49 (32 * m + j) = M.1 48 j) → Q M') : f_X8_notes_b49 N M Q := by
  unfold f_X8_notes_b49
  have lp : ∀ (r f k : Nat) (M' : zMem), r + k = 32 → r + 1 ≤ f → fz 47 62 M M' → (∀ c j, ¬ (c = 49 ∧ 32 * m ≤ j ∧ j < 32 * m + k) → M'.1 c j = M.1 c j) → (∀ j, j < k → M'.1 49 (32 * m + j) = M.1 48 j) → f_X8_notes_l51 N Q f (iI (k : Int)) M' := by
    intro r
    induction r with
    | zero =>
      intro f k M' hk hf f2 q1 q2
      obtain ⟨f, rfl⟩ : ∃ g, f = g + 1 := ⟨f - 1, by omega⟩
      show f_X8_notes_b51 N (f_X8_notes_l51 N Q f) (iI (k : Int)) M' Q
      unfold f_X8_notes_b51
      refine ⟨fun _ M1 e1 M2 e2 => ?_, fun cc => ?_⟩
      · rw [q1 47 4 (by omega), h4, iI_1, iI_add] at e1
        refine hQ M2 (f2.tr (by subst e1; subst e2; exact (fz_wI (by decide) (by decide)).tr (fz_wI (by decide) (by decide)))) (fun c j w1 w2 => ?_) ?_ ?_ (fun j hj => ?_)
        · subst e2; rw [zwI_1, if_neg (by omega)]
          subst e1; rw [zwI_1, if_neg (by omega)]
          exact q1 c j (by omega)
        · subst e2; rw [zwI_1, if_pos ⟨rfl, rfl⟩]
        · subst e2; rw [zwI_1, if_neg (by omega)]
          subst e1; rw [zwI_1, if_pos ⟨rfl, rfl⟩]
          rfl
        · subst e2; rw [zwI_1, if_neg (by omega)]
          subst e1; rw [zwI_1, if_neg (by omega)]
          exact q2 j (by omega)
      · simp (disch := omega) only [iI_m1, iI_0, iI_1, iI_2, iI_3, iI_4, iI_5, iI_6, iI_7, iI_8, iI_9, iI_10, iI_11, iI_12, iI_13, iI_16, iI_18, iI_20, iI_24, iI_31, iI_32, iI_33, iI_36, iI_48, iI_57, iI_59, iI_63, iI_64, iI_97, iI_100, iI_101, iI_130, iI_255, iI_256, iI_512, iI_1000, iI_1009, iI_2000, iI_2048, iI_32768, iI_2147483647, iI_add, iI_sub, iI_mul, iI_neg, iI_lt, iI_le, iI_eq, iI_in] at cc
        omega
    | succ r ih =>
      intro f k M' hk hf f2 q1 q2
      obtain ⟨f, rfl⟩ : ∃ g, f = g + 1 := ⟨f - 1, by omega⟩
      show f_X8_notes_b51 N (f_X8_notes_l51 N Q f) (iI (k : Int)) M' Q
      unfold f_X8_notes_b51
      have e5 : (32 : Int32) * iI (m : Int) + iI (k : Int) = iI ((32 * m + k : Nat) : Int) := by rw [iI_32, iI_mul, iI_add]; congr 1 <;> omega
      rw [q1 47 4 (by omega), h4, e5]
      refine ⟨fun cc => ?_, fun _ => ⟨iI_in0 (by omega) (by omega) (by decide), iI_in0 (by omega) (by omega) (by decide), fun M3 g3 v e => ?_⟩⟩
      · simp (disch := omega) only [iI_m1, iI_0, iI_1, iI_2, iI_3, iI_4, iI_5, iI_6, iI_7, iI_8, iI_9, iI_10, iI_11, iI_12, iI_13, iI_16, iI_18, iI_20, iI_24, iI_31, iI_32, iI_33, iI_36, iI_48, iI_57, iI_59, iI_63, iI_64, iI_97, iI_100, iI_101, iI_130, iI_255, iI_256, iI_512, iI_1000, iI_1009, iI_2000, iI_2048, iI_32768, iI_2147483647, iI_add, iI_sub, iI_mul, iI_neg, iI_lt, iI_le, iI_eq, iI_in] at cc
        omega
      · rw [zst_iI (by omega) (by omega), toN, zrd_iI (by omega) (by omega), toN, q1 48 k (by omega)] at g3
        simp (disch := omega) only [iI_m1, iI_0, iI_1, iI_2, iI_3, iI_4, iI_5, iI_6, iI_7, iI_8, iI_9, iI_10, iI_11, iI_12, iI_13, iI_16, iI_18, iI_20, iI_24, iI_31, iI_32, iI_33, iI_36, iI_48, iI_57, iI_59, iI_63, iI_64, iI_97, iI_100, iI_101, iI_130, iI_255, iI_256, iI_512, iI_1000, iI_1009, iI_2000, iI_2048, iI_32768, iI_2147483647, iI_add, iI_sub, iI_mul, iI_neg, iI_lt, iI_le, iI_eq, iI_in] at e
        subst e
        refine ih f (k + 1) M3 (by omega) (by omega) (f2.tr (by subst g3; exact fz_wI (by decide) (by decide))) (fun c j w => ?_) (fun j hj => ?_)
        · subst g3
          rw [zwI_1, if_neg (by omega)]
          exact q1 c j (by omega)
        · subst g3
          rw [zwI_1]
          by_cases hjk : j = k
          · rw [if_pos ⟨rfl, by omega⟩, hjk]
          · rw [if_neg (by omega)]
            exact q2 j (by omega)
  exact lp 32 N 0 M (by omega) (by omega) fz.rf (fun c j w => rfl) (fun j hj => by omega)
/-- what stands behind notes -/
def NT (n : Nat) (P : Nat → Nat → Int) (H : HiS) (M M' : zMem) : Prop := fz 47 62 M M' ∧ (∀ c k, c ≠ 49 → ¬ (c = 47 ∧ (k = 4 ∨ k = 11)) → M'.1 c k = M.1 c k) ∧ M'.1 47 11 = 0 ∧ M'.1 47 4 = iI ((min (H.1 + 1) 10 : Nat) : Int) ∧ ∀ j, j < min (H.1 + 1) 10 → ∀ a, a < n → ∀ k, k < 8 → M'.1 49 (32 * j + 8 * a + k) = iI (stp P H (min (H.1 + 1) 10 - 1 - j) a k)
theorem r_notes {N n : Nat} {P : Nat → Nat → Int} {T : TxS} {H : HiS} {I : ImS} {E : SeS} {M : zMem} {Q : zMem → Prop} (hN : 400 ≤ N) (h : RR n P T H I E M) (hQ : ∀ M', NT n P H M M' → Q M') : f_X8_notes N M Q := by
  unfold f_X8_notes
  have hH := h.2.2.1
  have hl := hH.1
  have hn := (RR_n h.1).1
  have cur : ∀ a, a < n → ∀ k, k < 8 → M.1 48 (8 * a + k) = iI (P a k) := fun a ha k hk => (h.1.1.2.2 a ha).2 k hk
  rw [hH.2.1]
  refine ⟨fun c => ?_, fun c => ?_⟩
  · simp (disch := omega) only [iI_m1, iI_0, iI_1, iI_2, iI_3, iI_4, iI_5, iI_6, iI_7, iI_8, iI_9, iI_10, iI_11, iI_12, iI_13, iI_16, iI_18, iI_20, iI_24, iI_31, iI_32, iI_33, iI_36, iI_48, iI_57, iI_59, iI_63, iI_64, iI_97, iI_100, iI_101, iI_130, iI_255, iI_256, iI_512, iI_1000, iI_1009, iI_2000, iI_2048, iI_32768, iI_2147483647, iI_add, iI_sub, iI_mul, iI_neg, iI_lt, iI_le, iI_eq, iI_in] at c
    refine t_X8_notes_b49 (m := H.1) hN (by omega) hH.2.1 (fun M' f1 o1 e1 e2 s1 => hQ M' ⟨f1, fun c k w1 w2 => o1 c k (by omega) w2, e1, by rw [e2]; congr 2; omega, fun j hj a ha k hk => ?_⟩)
    by_cases hjm : j = H.1
    · subst hjm
      rw [show 32 * H.1 + 8 * a + k = 32 * H.1 + (8 * a + k) by omega, s1 _ (by omega), cur a ha k hk, show min (H.1 + 1) 10 - 1 - H.1 = 0 by omega]
      rfl
    · rw [o1 _ _ (by omega) (by omega), hH.2.2.2 j (by omega) a ha k hk, show min (H.1 + 1) 10 - 1 - j = H.1 - j by omega]
  · simp (disch := omega) only [iI_m1, iI_0, iI_1, iI_2, iI_3, iI_4, iI_5, iI_6, iI_7, iI_8, iI_9, iI_10, iI_11, iI_12, iI_13, iI_16, iI_18, iI_20, iI_24, iI_31, iI_32, iI_33, iI_36, iI_48, iI_57, iI_59, iI_63, iI_64, iI_97, iI_100, iI_101, iI_130, iI_255, iI_256, iI_512, iI_1000, iI_1009, iI_2000, iI_2048, iI_32768, iI_2147483647, iI_add, iI_sub, iI_mul, iI_neg, iI_lt, iI_le, iI_eq, iI_in] at c
    have lp : ∀ (r f k : Nat) (M' : zMem), r + k = 288 → r + 1 ≤ f → fz 47 62 M M' → (∀ c j, c ≠ 49 → M'.1 c j = M.1 c j) → (∀ j, j < k → M'.1 49 j = M.1 49 (j + 32)) → (∀ j, k ≤ j → M'.1 49 j = M.1 49 j) → f_X8_notes_l11 N Q f (iI (k : Int)) M' := by
      intro r
      induction r with
      | zero =>
        intro f k M' hk hf f2 q1 q2 q3
        obtain ⟨f, rfl⟩ : ∃ g, f = g + 1 := ⟨f - 1, by omega⟩
        show f_X8_notes_b11 N (f_X8_notes_l11 N Q f) (iI (k : Int)) M' Q
        unfold f_X8_notes_b11
        refine ⟨fun _ M5 e5 => ?_, fun cc => ?_⟩
        · rw [q1 47 4 (by decide), hH.2.1, iI_1, iI_sub, show (H.1 : Int) - 1 = ((9 : Nat) : Int) by omega] at e5
          have o5 : ∀ c j, ¬ (c = 47 ∧ j = 4) → M5.1 c j = M'.1 c j := fun c j w => by subst e5; rw [zwI_1, if_neg w]
          refine t_X8_notes_b49 (m := 9) hN (by omega) (by subst e5; rw [zwI_1, if_pos ⟨rfl, rfl⟩]) (fun M7 f7 o7 e7 e8 s7 => hQ M7 ⟨(f2.tr (by subst e5; exact fz_wI (by decide) (by decide))).tr f7, fun c k w1 w2 => by rw [o7 c k (by omega) w2, o5 c k (by omega), q1 c k w1], e7, by rw [e8]; congr 2; omega, fun j hj a ha k hk => ?_⟩)
          by_cases hjm : j = 9
          · subst hjm
            rw [show 32 * 9 + 8 * a + k = 32 * 9 + (8 * a + k) by omega, s7 _ (by omega), o5 _ _ (by omega), q1 _ _ (by omega), cur a ha k hk, show min (H.1 + 1) 10 - 1 - 9 = 0 by omega]
            rfl
          · rw [o7 _ _ (by omega) (by omega), o5 _ _ (by omega), q2 _ (by omega), show 32 * j + 8 * a + k + 32 = 32 * (j + 1) + 8 * a + k by omega, hH.2.2.2 (j + 1) (by omega) a ha k hk, show min (H.1 + 1) 10 - 1 - j = H.1 - (j + 1) by omega]
        · simp (disch := omega) only [iI_288, iI_m1, iI_0, iI_1, iI_2, iI_3, iI_4, iI_5, iI_6, iI_7, iI_8, iI_9, iI_10, iI_11, iI_12, iI_13, iI_16, iI_18, iI_20, iI_24, iI_31, iI_32, iI_33, iI_36, iI_48, iI_57, iI_59, iI_63, iI_64, iI_97, iI_100, iI_101, iI_130, iI_255, iI_256, iI_512, iI_1000, iI_1009, iI_2000, iI_2048, iI_32768, iI_2147483647, iI_add, iI_sub, iI_mul, iI_neg, iI_lt, iI_le, iI_eq, iI_in] at cc
          omega
      | succ r ih =>
        intro f k M' hk hf f2 q1 q2 q3
        obtain ⟨f, rfl⟩ : ∃ g, f = g + 1 := ⟨f - 1, by omega⟩
        show f_X8_notes_b11 N (f_X8_notes_l11 N Q f) (iI (k : Int)) M' Q
        unfold f_X8_notes_b11
        have e5 : iI (k : Int) + (32 : Int32) = iI ((k + 32 : Nat) : Int) := by rw [iI_32, iI_add]; congr 1 <;> omega
        rw [e5]
        refine ⟨fun cc => ?_, fun _ => ⟨iI_in0 (by omega) (by omega) (by decide), iI_in0 (by omega) (by omega) (by decide), fun M6 g6 v e => ?_⟩⟩
        · simp (disch := omega) only [iI_288, iI_m1, iI_0, iI_1, iI_2, iI_3, iI_4, iI_5, iI_6, iI_7, iI_8, iI_9, iI_10, iI_11, iI_12, iI_13, iI_16, iI_18, iI_20, iI_24, iI_31, iI_32, iI_33, iI_36, iI_48, iI_57, iI_59, iI_63, iI_64, iI_97, iI_100, iI_101, iI_130, iI_255, iI_256, iI_512, iI_1000, iI_1009, iI_2000, iI_2048, iI_32768, iI_2147483647, iI_add, iI_sub, iI_mul, iI_neg, iI_lt, iI_le, iI_eq, iI_in] at cc
          omega
        · rw [zst_iI (by omega) (by omega), toN, zrd_iI (by omega) (by omega), toN, q3 _ (by omega)] at g6
          simp (disch := omega) only [iI_m1, iI_0, iI_1, iI_2, iI_3, iI_4, iI_5, iI_6, iI_7, iI_8, iI_9, iI_10, iI_11, iI_12, iI_13, iI_16, iI_18, iI_20, iI_24, iI_31, iI_32, iI_33, iI_36, iI_48, iI_57, iI_59, iI_63, iI_64, iI_97, iI_100, iI_101, iI_130, iI_255, iI_256, iI_512, iI_1000, iI_1009, iI_2000, iI_2048, iI_32768, iI_2147483647, iI_add, iI_sub, iI_mul, iI_neg, iI_lt, iI_le, iI_eq, iI_in] at e
          subst e
          refine ih f (k + 1) M6 (by omega) (by omega) (f2.tr (by subst g6; exact fz_wI (by decide) (by decide))) (fun c j w => ?_) (fun j hj => ?_) (fun j hj => ?_)
          · subst g6
            rw [zwI_1, if_neg (by omega)]
            exact q1 c j w
          · subst g6
            rw [zwI_1]
            by_cases hjk : j = k
            · rw [if_pos ⟨rfl, by omega⟩, hjk]
            · rw [if_neg (by omega)]
              exact q2 j (by omega)
          · subst g6
            rw [zwI_1, if_neg (by omega)]
            exact q3 j (by omega)
    exact lp 288 N 0 M (by omega) (by omega) fz.rf (fun c j w => rfl) (fun j hj => by omega) (fun j hj => rfl)
theorem RR_chg {n a : Nat} {P : Nat → Nat → Int} {T : TxS} {H : HiS} {I : ImS} {E : SeS} {M M3 M' : zMem} {p' : Nat → Int} (h : RR n P T H I E M) (ha : a < n) (hp : pOk p') (h3 : NT n P H M M3) (f4 : fz 47 62 M3 M') (o4 : ∀ c k, ¬ (c = 48 ∧ 8 * a ≤ k ∧ k < 8 * a + 8) → M'.1 c k = M3.1 c k) (s4 : ∀ k, k < 8 → M'.1 48 (8 * a + k) = iI (p' k)) : fz 47 62 M M' ∧ RR n (upA P a p') T (pushH P H a) I E M' := by
  obtain ⟨f3, o3, e3, n3, s3⟩ := h3
  have hn := RR_n h.1
  have o : ∀ c k, ¬ (c = 48 ∨ c = 49 ∨ (c = 47 ∧ (k = 4 ∨ k = 11))) → M'.1 c k = M.1 c k := fun c k w => (o4 c k (by omega)).trans (o3 c k (by omega) (by omega))
  have pp := RR_p h (M' := M') _ o
  refine ⟨f3.tr f4, ⟨⟨hn.1, (o _ _ (by omega)).trans hn.2, fun b hb => ?_⟩, Or.inl ((o4 _ _ (by omega)).trans e3)⟩, pp.2.1 ⟨by omega, fun k => by omega⟩, ⟨?_, ?_, fun i hi => ?_, fun j hj b hb k hk => ?_⟩, pp.2.2.2.1 (fun k => by omega), pp.2.2.2.2 ⟨by omega, fun k => by omega⟩⟩
  · by_cases hba : b = a
    · subst hba
      rw [upA_1]
      exact ⟨hp, s4⟩
    · rw [upA_2 hba]
      refine ⟨(h.1.1.2.2 b hb).1, fun k hk => ?_⟩
      rw [o4 _ _ (by omega), o3 _ _ (by omega) (by omega)]
      exact (h.1.1.2.2 b hb).2 k hk
  · show min (H.1 + 1) 10 ≤ 10
    omega
  · exact (o4 _ _ (by omega)).trans n3
  · have hi' : i < min (H.1 + 1) 10 := hi
    show (if i = 0 then a else H.2.1 (i - 1)) < n ∧ pOk (if i = 0 then P a else H.2.2 (i - 1))
    by_cases hi0 : i = 0
    · rw [if_pos hi0, if_pos hi0]
      exact ⟨ha, (h.1.1.2.2 a ha).1⟩
    · rw [if_neg hi0, if_neg hi0]
      exact h.2.2.1.2.2.1 (i - 1) (by omega)
  · have hj' : j < min (H.1 + 1) 10 := hj
    rw [o4 _ _ (by omega), s3 j hj' b hb k hk]
    show iI (stp P H (min (H.1 + 1) 10 - 1 - j) b k) = iI (stp (upA P a p') (pushH P H a) (min (H.1 + 1) 10 - j) b k)
    rw [show min (H.1 + 1) 10 - j = min (H.1 + 1) 10 - 1 - j + 1 by omega, stp_push]
theorem r_moves {N n : Nat} {P : Nat → Nat → Int} {T : TxS} {H : HiS} {I : ImS} {E : SeS} {z1 z2 z3 z4 : Int} {M : zMem} {Q : Int32 → zMem → Prop} (hN : 400 ≤ N) (h : RR n P T H I E M) (h1 : -2147483648 ≤ z1 ∧ z1 < 2147483648) (h2 : -2147483648 ≤ z2 ∧ z2 < 2147483648) (h3 : -2147483648 ≤ z3 ∧ z3 < 2147483648) (h4 : -2147483648 ≤ z4 ∧ z4 < 2147483648) (hQ : ∀ M', fz 47 62 M M' → RR n (pMvS n P z1 z2 z3 z4) T (hMvS n P H z1 z2 z3 z4) I E M' → Q (iI (rMv n P z1 z2 z3 z4)) M') : f_X8_moves N (iI z1) (iI z2) (iI z3) (iI z4) M Q := by
  unfold f_X8_moves
  unfold rMv pMvS hMvS at hQ
  intro M1 e
  have f1 : fz 47 62 M M1 := by rw [e]; exact fz_0
  have r1 : RR n P T H I E M1 := by rw [e]; exact RR_0 h
  have hn := RR_n r1.1
  have hn1 := hn.1
  have bad : ¬ okMv n z1 z2 z3 z4 → Q (iI (-1)) M1 := by
    intro w
    rw [ifp_f (fun q => w q.1), ifp_f (fun q => w q.1), ifp_f w] at hQ
    exact hQ M1 f1 r1
  refine t_X8_isArc hn.1 hn.2 h1.1 h1.2 (fun a e1 l1 => ?_) (fun w => ⟨fun _ => bad (fun q => w q.1), fun e => absurd rfl e⟩)
  refine ⟨fun e => absurd e (by decide), fun _ => ?_⟩
  refine t_X8_upTo (h := 3) h2.1 h2.2 (by decide) (fun i e2 l2 => ?_) (fun w => ⟨fun _ => bad (fun q => w ⟨q.2.1.1, by have := q.2.1.2; omega⟩), fun e => absurd rfl e⟩)
  refine ⟨fun e => absurd e (by decide), fun _ => ?_⟩
  refine t_X8_m9 (z := z3) h3 (fun l3 => ?_) (fun w => ⟨fun _ => bad (fun q => w q.2.2.1), fun e => absurd rfl e⟩)
  refine ⟨fun e => absurd e (by decide), fun _ => ?_⟩
  refine t_X8_m9 (z := z4) h4 (fun l4 => ?_) (fun w => ⟨fun e => absurd rfl e, fun _ => bad (fun q => w q.2.2.2)⟩)
  have ok : okMv n z1 z2 z3 z4 := ⟨by omega, by omega, l3, l4⟩
  subst e1
  have e5 : (8 : Int32) * iI (a : Int) + (2 : Int32) * iI z2 = iI ((8 * a + 2 * i : Nat) : Int) := by rw [e2, iI_8, iI_2, iI_mul, iI_mul, iI_add]; congr 1 <;> omega
  have e6 : iI ((8 * a + 2 * i : Nat) : Int) + 1 = iI ((8 * a + (2 * i + 1) : Nat) : Int) := by rw [iI_1, iI_add]; rfl
  have v2 : vp_in (iI ((8 * a + 2 * i : Nat) : Int)) 32 := iI_in0 (by omega) (by omega) (by decide)
  have v3 : vp_in (iI ((8 * a + (2 * i + 1) : Nat) : Int)) 32 := iI_in0 (by omega) (by omega) (by decide)
  have t2 : z2.toNat = i := by omega
  have hp := (r1.1.1.2.2 a l1).1
  refine ⟨fun _ v10 e10 => ?_, fun e => absurd e (by decide)⟩
  rw [e5] at e10
  subst e10
  have change : ¬ saMv P (a : Int) z2 z3 z4 → f_X8_moves_b85 N (iI z3) (iI z4) (iI ((8 * a + 2 * i : Nat) : Int)) M1 Q := by
    intro ns
    rw [ifp_t ⟨ok, ns⟩, ifp_t ⟨ok, ns⟩, ifp_t ok, ifp_f ns, toN, t2] at hQ
    unfold f_X8_moves_b85
    refine r_notes hN r1 (fun M12 n12 => ⟨v2, fun M13 g13 => ?_⟩)
    rw [e6]
    refine ⟨v3, fun M14 g14 => ?_⟩
    rw [zst_iI (by omega) (by omega), toN] at g13 g14
    obtain ⟨w1, w2⟩ := RR_chg (M' := M14) (p' := pMv (P a) i z3 z4) r1 l1 (pMv_ok hp l3 l4) n12 (by subst g13; subst g14; exact (fz_wI (by decide) (by decide)).tr (fz_wI (by decide) (by decide))) (fun c k w => by subst g14; rw [zwI_1, if_neg (by omega)]; subst g13; rw [zwI_1, if_neg (by omega)]) (fun k hk => by
      unfold pMv
      subst g14; rw [zwI_1]
      by_cases hk1 : k = 2 * i + 1
      · rw [if_pos ⟨rfl, by omega⟩, if_neg (by omega), if_pos hk1]
      · rw [if_neg (by omega)]
        subst g13; rw [zwI_1]
        by_cases hk0 : k = 2 * i
        · rw [if_pos ⟨rfl, by omega⟩, if_pos hk0]
        · rw [if_neg (by omega), if_neg hk0, if_neg hk1, n12.2.1 _ _ (by omega) (by omega)]
          exact (r1.1.1.2.2 a l1).2 k hk)
    exact hQ M14 (f1.tr w1) w2
  have rr : ∀ k : Nat, k < 8 → zrd M1 48 (iI ((8 * a + k : Nat) : Int)) = iI (P a k) := fun k hk => by rw [zrd_iI (by omega) (by omega), toN]; exact (r1.1.1.2.2 a l1).2 k hk
  have b0 := hp (2 * i) (by omega)
  have b1 := hp (2 * i + 1) (by omega)
  rw [e6, rr _ (by omega), rr _ (by omega), iI_eq (by omega) (by omega) (by omega) (by omega), iI_eq (by omega) (by omega) (by omega) (by omega)]
  refine ⟨v2, fun c => change (fun q => c (by have := q.1; rw [toN, t2] at this; exact this)), fun c => ⟨v3, fun c2 => change (fun q => c2 (by have := q.2; rw [toN, t2] at this; exact this)), fun c2 => ?_⟩⟩
  have sa : saMv P (a : Int) z2 z3 z4 := ⟨by rw [toN, t2]; exact c, by rw [toN, t2]; exact c2⟩
  rw [ifp_f (fun q => q.2 sa), ifp_f (fun q => q.2 sa), ifp_t ok, ifp_t sa] at hQ
  exact hQ M1 f1 r1
theorem r_undo {N n : Nat} {P : Nat → Nat → Int} {T : TxS} {H : HiS} {I : ImS} {E : SeS} {M : zMem} {Q : Int32 → zMem → Prop} (hN : 400 ≤ N) (h : RR n P T H I E M) (hQ : ∀ M', fz 47 62 M M' → RR n (pUnS P H) T (hUnS H) I E M' → Q (iI (rUn H)) M') : f_X8_undo N M Q := by
  unfold f_X8_undo
  unfold rUn pUnS hUnS at hQ
  intro M1 e
  have f1 : fz 47 62 M M1 := by rw [e]; exact fz_0
  have r1 : RR n P T H I E M1 := by rw [e]; exact RR_0 h
  have hn := RR_n r1.1
  have hn1 := hn.1
  have hH := r1.2.2.1
  have hl := hH.1
  rw [hH.2.1]
  refine ⟨fun c M2 e2 => ?_, fun c => ?_⟩
  · simp (disch := omega) only [iI_m1, iI_0, iI_1, iI_2, iI_3, iI_4, iI_5, iI_6, iI_7, iI_8, iI_9, iI_10, iI_11, iI_12, iI_13, iI_16, iI_18, iI_20, iI_24, iI_31, iI_32, iI_33, iI_36, iI_48, iI_57, iI_59, iI_63, iI_64, iI_97, iI_100, iI_101, iI_130, iI_255, iI_256, iI_512, iI_1000, iI_1009, iI_2000, iI_2048, iI_32768, iI_2147483647, iI_add, iI_sub, iI_mul, iI_neg, iI_lt, iI_le, iI_eq, iI_in] at c
    rw [ifp_t (by omega), ifp_t (by omega), ifp_t (by omega)] at hQ
    rw [iI_1, iI_sub, show (H.1 : Int) - 1 = ((H.1 - 1 : Nat) : Int) by omega] at e2
    rw [show (H.1 : Int) - 1 = ((H.1 - 1 : Nat) : Int) by omega] at hQ
    have o2 : ∀ c k, ¬ (c = 47 ∧ k = 4) → M2.1 c k = M1.1 c k := fun c k w => by subst e2; rw [zwI_1, if_neg w]
    have n2 : M2.1 47 4 = iI ((H.1 - 1 : Nat) : Int) := by subst e2; rw [zwI_1, if_pos ⟨rfl, rfl⟩]
    have lp : ∀ (r f k : Nat) (M' : zMem), r + k = 32 → r + 1 ≤ f → fz 47 62 M2 M' → (∀ c j, ¬ (c = 48 ∧ j < k) → M'.1 c j = M2.1 c j) → (∀ j, j < k → M'.1 48 j = M2.1 49 (32 * (H.1 - 1) + j)) → f_X8_undo_l27 N Q f (iI (k : Int)) M' := by
      intro r
      induction r with
      | zero =>
        intro f k M' hk hf f3 q1 q2
        obtain ⟨f, rfl⟩ : ∃ g, f = g + 1 := ⟨f - 1, by omega⟩
        show f_X8_undo_b27 N (f_X8_undo_l27 N Q f) (iI (k : Int)) M' Q
        unfold f_X8_undo_b27
        refine ⟨fun _ M3 e3 => ?_, fun cc => ?_⟩
        · have o3 : ∀ c j, ¬ (c = 48 ∧ j < k) → ¬ (c = 47 ∧ (j = 11 ∨ j = 4)) → M3.1 c j = M1.1 c j := fun c j w1 w2 => by subst e3; rw [zwI_1, if_neg (by omega), q1 c j w1]; exact o2 c j (by omega)
          have n3 : M3.1 47 4 = iI ((H.1 - 1 : Nat) : Int) := by subst e3; rw [zwI_1, if_neg (by omega), q1 _ _ (by omega)]; exact n2
          rw [n3]
          have pp := RR_p r1 (M' := M3) (fun c j => c = 48 ∨ (c = 47 ∧ (j = 11 ∨ j = 4))) (fun c j w => o3 c j (by omega) (by omega))
          have fH := hH.2.2.1 0 (by omega)
          refine hQ M3 ((f1.tr (by subst e2; exact fz_wI (by decide) (by decide))).tr (f3.tr (by subst e3; exact fz_wI (by decide) (by decide)))) ⟨⟨⟨hn1, (o3 _ _ (by omega) (by omega)).trans hn.2, fun a ha => ?_⟩, Or.inl ?_⟩, pp.2.1 ⟨by omega, fun k => by omega⟩, ⟨?_, n3, fun i hi => ?_, fun j hj a ha k hk => ?_⟩, pp.2.2.2.1 (fun k => by omega), pp.2.2.2.2 ⟨by omega, fun k => by omega⟩⟩
          · refine ⟨?_, fun j hj => ?_⟩
            · by_cases haa : a = H.2.1 0
              · subst haa; rw [upA_1]; exact fH.2
              · rw [upA_2 haa]; exact (r1.1.1.2.2 a ha).1
            · have e6 : M3.1 48 (8 * a + j) = M'.1 48 (8 * a + j) := by subst e3; rw [zwI_1, if_neg (by omega)]
              rw [e6, q2 _ (by omega), o2 _ _ (by omega), show 32 * (H.1 - 1) + (8 * a + j) = 32 * (H.1 - 1) + 8 * a + j by omega, hH.2.2.2 (H.1 - 1) (by omega) a ha j hj, show H.1 - (H.1 - 1) = 1 by omega]
              rfl
          · subst e3; rw [zwI_1, if_pos ⟨rfl, rfl⟩]
          · show H.1 - 1 ≤ 10
            omega
          · have hi' : i < H.1 - 1 := hi
            exact hH.2.2.1 (i + 1) (by omega)
          · have hj' : j < H.1 - 1 := hj
            rw [o3 _ _ (by omega) (by omega), hH.2.2.2 j (by omega) a ha k hk]
            show iI (stp P H (H.1 - j) a k) = iI (stp (upA P (H.2.1 0) (H.2.2 0)) (popH H) (H.1 - 1 - j) a k)
            rw [stp_pop, show H.1 - 1 - j + 1 = H.1 - j by omega]
        · simp (disch := omega) only [iI_m1, iI_0, iI_1, iI_2, iI_3, iI_4, iI_5, iI_6, iI_7, iI_8, iI_9, iI_10, iI_11, iI_12, iI_13, iI_16, iI_18, iI_20, iI_24, iI_31, iI_32, iI_33, iI_36, iI_48, iI_57, iI_59, iI_63, iI_64, iI_97, iI_100, iI_101, iI_130, iI_255, iI_256, iI_512, iI_1000, iI_1009, iI_2000, iI_2048, iI_32768, iI_2147483647, iI_add, iI_sub, iI_mul, iI_neg, iI_lt, iI_le, iI_eq, iI_in] at cc
          omega
      | succ r ih =>
        intro f k M' hk hf f3 q1 q2
        obtain ⟨f, rfl⟩ : ∃ g, f = g + 1 := ⟨f - 1, by omega⟩
        show f_X8_undo_b27 N (f_X8_undo_l27 N Q f) (iI (k : Int)) M' Q
        unfold f_X8_undo_b27
        have e5 : (32 : Int32) * iI ((H.1 - 1 : Nat) : Int) + iI (k : Int) = iI ((32 * (H.1 - 1) + k : Nat) : Int) := by rw [iI_32, iI_mul, iI_add]; congr 1 <;> omega
        rw [q1 47 4 (by omega), n2, e5]
        refine ⟨fun cc => ?_, fun _ => ⟨iI_in0 (by omega) (by omega) (by decide), iI_in0 (by omega) (by omega) (by decide), fun M4 g4 v e => ?_⟩⟩
        · simp (disch := omega) only [iI_m1, iI_0, iI_1, iI_2, iI_3, iI_4, iI_5, iI_6, iI_7, iI_8, iI_9, iI_10, iI_11, iI_12, iI_13, iI_16, iI_18, iI_20, iI_24, iI_31, iI_32, iI_33, iI_36, iI_48, iI_57, iI_59, iI_63, iI_64, iI_97, iI_100, iI_101, iI_130, iI_255, iI_256, iI_512, iI_1000, iI_1009, iI_2000, iI_2048, iI_32768, iI_2147483647, iI_add, iI_sub, iI_mul, iI_neg, iI_lt, iI_le, iI_eq, iI_in] at cc
          omega
        · rw [zst_iI (by omega) (by omega), toN, zrd_iI (by omega) (by omega), toN, q1 49 _ (by omega)] at g4
          simp (disch := omega) only [iI_m1, iI_0, iI_1, iI_2, iI_3, iI_4, iI_5, iI_6, iI_7, iI_8, iI_9, iI_10, iI_11, iI_12, iI_13, iI_16, iI_18, iI_20, iI_24, iI_31, iI_32, iI_33, iI_36, iI_48, iI_57, iI_59, iI_63, iI_64, iI_97, iI_100, iI_101, iI_130, iI_255, iI_256, iI_512, iI_1000, iI_1009, iI_2000, iI_2048, iI_32768, iI_2147483647, iI_add, iI_sub, iI_mul, iI_neg, iI_lt, iI_le, iI_eq, iI_in] at e
          subst e
          refine ih f (k + 1) M4 (by omega) (by omega) (f3.tr (by subst g4; exact fz_wI (by decide) (by decide))) (fun c j w => ?_) (fun j hj => ?_)
          · subst g4
            rw [zwI_1, if_neg (by omega)]
            exact q1 c j (by omega)
          · subst g4
            rw [zwI_1]
            by_cases hjk : j = k
            · rw [if_pos ⟨rfl, by omega⟩, hjk]
            · rw [if_neg (by omega)]
              exact q2 j (by omega)
    exact lp 32 N 0 M2 (by omega) (by omega) fz.rf (fun c j w => rfl) (fun j hj => by omega)
  · simp (disch := omega) only [iI_m1, iI_0, iI_1, iI_2, iI_3, iI_4, iI_5, iI_6, iI_7, iI_8, iI_9, iI_10, iI_11, iI_12, iI_13, iI_16, iI_18, iI_20, iI_24, iI_31, iI_32, iI_33, iI_36, iI_48, iI_57, iI_59, iI_63, iI_64, iI_97, iI_100, iI_101, iI_130, iI_255, iI_256, iI_512, iI_1000, iI_1009, iI_2000, iI_2048, iI_32768, iI_2147483647, iI_add, iI_sub, iI_mul, iI_neg, iI_lt, iI_le, iI_eq, iI_in] at c
    rw [ifp_f (by omega), ifp_f (by omega), ifp_f (by omega)] at hQ
    exact hQ M1 f1 r1
