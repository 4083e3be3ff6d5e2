/-! ===== keep, back: both sides ===== -/
theorem t_X3_outdate {N : Nat} {M : zMem} {Q : zMem → Prop} (hN : 100 ≤ N) (hQ : ∀ M', fz 38 46 M M' → (∀ n P, CV n P M' ∧ KV n P M') → Q M') : f_X3_outdate N M Q := by
  unfold f_X3_outdate
  intro M1 e1 M2 e2
  have f2 : fz 38 46 M M2 := by subst e1; subst e2; exact (fz_wI (by decide) (by decide)).tr (fz_wI (by decide) (by decide))
  have p2 : M2.1 38 10 = iI (-1) ∧ M2.1 38 11 = iI (-1) := by
    subst e1; subst e2
    exact ⟨by rw [zwI_1, if_neg (by omega), zwI_1, if_pos ⟨rfl, rfl⟩]; rfl, by rw [zwI_1, if_pos ⟨rfl, rfl⟩]; rfl⟩
  have lp : ∀ (r f k : Nat) (M' : zMem), r + k = 16 → r + 1 ≤ f → fz 38 46 M M' → (M'.1 38 10 = iI (-1) ∧ M'.1 38 11 = iI (-1)) → (∀ j, j < k → M'.1 46 j = iI (-1)) → f_X3_outdate_l12 N Q f (iI (k : Int)) M' := by
    intro r
    induction r with
    | zero =>
      intro f k M' hk hf f1 p1 q1
      obtain ⟨f, rfl⟩ : ∃ g, f = g + 1 := ⟨f - 1, by omega⟩
      show f_X3_outdate_b12 N (f_X3_outdate_l12 N Q f) (iI (k : Int)) M' Q
      unfold f_X3_outdate_b12
      refine ⟨fun _ => hQ M' f1 (fun n P => ⟨Or.inl p1, fun a b ha hb _ _ _ => Or.inl (q1 _ (by omega))⟩), fun cc => ?_⟩
      simp (disch := omega) only [iI_m1, iI_0, iI_1, iI_2, iI_3, iI_4, iI_5, iI_6, iI_7, iI_8, iI_9, iI_10, iI_11, iI_12, iI_13, iI_16, iI_18, iI_20, iI_24, iI_31, iI_32, iI_33, iI_36, iI_48, iI_57, iI_59, iI_63, iI_64, iI_97, iI_100, iI_101, iI_130, iI_255, iI_256, iI_512, iI_1000, iI_1009, iI_2000, iI_2048, iI_32768, iI_2147483647, iI_add, iI_sub, iI_mul, iI_neg, iI_lt, iI_le, iI_eq, iI_in] at cc
      omega
    | succ r ih =>
      intro f k M' hk hf f1 p1 q1
      obtain ⟨f, rfl⟩ : ∃ g, f = g + 1 := ⟨f - 1, by omega⟩
      show f_X3_outdate_b12 N (f_X3_outdate_l12 N Q f) (iI (k : Int)) M' Q
      unfold f_X3_outdate_b12
      refine ⟨fun cc => ?_, fun _ => ⟨iI_in0 (by omega) (by omega) (by decide), fun M3 e3 v e => ?_⟩⟩
      · simp (disch := omega) only [iI_m1, iI_0, iI_1, iI_2, iI_3, iI_4, iI_5, iI_6, iI_7, iI_8, iI_9, iI_10, iI_11, iI_12, iI_13, iI_16, iI_18, iI_20, iI_24, iI_31, iI_32, iI_33, iI_36, iI_48, iI_57, iI_59, iI_63, iI_64, iI_97, iI_100, iI_101, iI_130, iI_255, iI_256, iI_512, iI_1000, iI_1009, iI_2000, iI_2048, iI_32768, iI_2147483647, iI_add, iI_sub, iI_mul, iI_neg, iI_lt, iI_le, iI_eq, iI_in] at cc
        omega
      · rw [zst_iI (by omega) (by omega), toN] at e3
        simp (disch := omega) only [iI_m1, iI_0, iI_1, iI_2, iI_3, iI_4, iI_5, iI_6, iI_7, iI_8, iI_9, iI_10, iI_11, iI_12, iI_13, iI_16, iI_18, iI_20, iI_24, iI_31, iI_32, iI_33, iI_36, iI_48, iI_57, iI_59, iI_63, iI_64, iI_97, iI_100, iI_101, iI_130, iI_255, iI_256, iI_512, iI_1000, iI_1009, iI_2000, iI_2048, iI_32768, iI_2147483647, iI_add, iI_sub, iI_mul, iI_neg, iI_lt, iI_le, iI_eq, iI_in] at e
        subst e
        refine ih f (k + 1) M3 (by omega) (by omega) (f1.tr (by subst e3; exact fz_wI (by decide) (by decide))) ?_ (fun j hj => ?_)
        · subst e3
          exact ⟨by rw [zwI_1, if_neg (by omega)]; exact p1.1, by rw [zwI_1, if_neg (by omega)]; exact p1.2⟩
        · subst e3
          rw [zwI_1]
          by_cases hjk : j = k
          · rw [if_pos ⟨rfl, hjk⟩]; rfl
          · rw [if_neg (by omega)]; exact q1 j (by omega)
  exact lp 16 N 0 M2 (by omega) (by omega) f2 p2 (fun j hj => by omega)
noncomputable def rKe (n : Nat) (z : Int) : Int := ifp (0 ≤ z ∧ z < 2) (n : Int) (-1)
noncomputable def nKe (P : Nat → Nat → Int) (I : ImS) (z : Int) : ImS := ifp (0 ≤ z ∧ z < 2) ((fun i => I.1 i ∨ i = z.toNat), fun i => if i = z.toNat then P else I.2 i) I
theorem nar_1 : vp_nar .boolean (1 : Int32) = iI 1 := nar_b true
theorem nar_0 : vp_nar .boolean (0 : Int32) = iI 0 := nar_b false
theorem c_keep {N n : Nat} {P : Nat → Nat → Int} {T : TxS} {H : HiS} {I : ImS} {E : SeS} {z : Int} {M : zMem} {Q : Int32 → zMem → Prop} (hN : 100 ≤ N) (h : RC n P T H I E M) (h1 : -2147483648 ≤ z ∧ z < 2147483648) (hQ : ∀ M', fz 0 46 M M' → RC n P T H (nKe P I z) E M' → Q (iI (rKe n z)) M') : f_X7_keep N (iI z) M Q := by
  unfold f_X7_keep
  unfold rKe nKe at hQ
  have hn := h.1.1
  refine t_X7_isImage h1.1 h1.2 (fun i e1 l1 => ?_) (fun w => ?_)
  · rw [ifp_t (by omega), ifp_t (by omega)] at hQ
    subst e1
    rw [toN] at hQ
    refine ⟨fun _ => ⟨iI_in0 (by omega) (by omega) (by decide), fun M3 e3 => ?_⟩, fun e => absurd e (by decide)⟩
    rw [nar_1, zst_iI (by omega) (by omega), toN] at e3
    have lp : ∀ (r f k : Nat) (M' : zMem), r + k = n → r + 1 ≤ f → fz 33 34 M M' → (∀ j, M'.1 33 j = if j = i then iI 1 else M.1 33 j) → (∀ j, (j < 32 * i ∨ 32 * i + 32 ≤ j) → M'.1 34 j = M.1 34 j) → (∀ a, a < k → ∀ j, j < 8 → M'.1 34 (8 * (4 * i + a) + j) = iI (P a j)) → f_X7_keep_l21 N (iI (i : Int)) Q f (iI (k : Int)) M' := by
      intro r
      induction r with
      | zero =>
        intro f k M' hk hf f1 q1 q2 q3
        obtain ⟨f, rfl⟩ : ∃ g, f = g + 1 := ⟨f - 1, by omega⟩
        show f_X7_keep_b21 N (f_X7_keep_l21 N (iI (i : Int)) Q f) (iI (i : Int)) (iI (k : Int)) M' Q
        unfold f_X7_keep_b21
        obtain rfl : k = n := by omega
        rw [(f1 0 (by omega)).1, h.1.2.1]
        refine ⟨fun _ => ?_, fun cc => ?_⟩
        · refine hQ M' (fz_wide f1 (by omega) (by omega)) ⟨cA_fz h.1 f1 (by omega), cT_fz h.2.1 f1 (by omega), cH_fz h.2.2.1 f1 (by omega), fun i' hi' => ?_, cS_fz h.2.2.2.2 f1 (by omega)⟩
          dsimp only
          by_cases hii : i' = i
          · subst hii
            refine Or.inr ⟨Or.inr rfl, by rw [q1, if_pos rfl], fun a ha => ?_⟩
            rw [if_pos rfl]
            exact ⟨(h.1.2.2.1 a ha).1, q3 a ha⟩
          · rw [q1, if_neg hii, if_neg hii]
            rcases h.2.2.2.1 i' hi' with w | w
            · exact Or.inl ⟨fun w2 => w2.elim w.1 hii, w.2⟩
            · exact Or.inr ⟨Or.inl w.1, w.2.1, fun a ha => ⟨(w.2.2 a ha).1, fun j hj => by rw [q2 _ (by omega)]; exact (w.2.2 a ha).2 j hj⟩⟩
        · simp (disch := omega) only [iI_m1, iI_0, iI_1, iI_2, iI_3, iI_4, iI_5, iI_6, iI_7, iI_8, iI_9, iI_10, iI_11, iI_12, iI_13, iI_16, iI_18, iI_20, iI_24, iI_31, iI_32, iI_33, iI_36, iI_48, iI_57, iI_59, iI_63, iI_64, iI_97, iI_100, iI_101, iI_130, iI_255, iI_256, iI_512, iI_1000, iI_1009, iI_2000, iI_2048, iI_32768, iI_2147483647, iI_add, iI_sub, iI_mul, iI_neg, iI_lt, iI_le, iI_eq, iI_in] at cc
          omega
      | succ r ih =>
        intro f k M' hk hf f1 q1 q2 q3
        obtain ⟨f, rfl⟩ : ∃ g, f = g + 1 := ⟨f - 1, by omega⟩
        show f_X7_keep_b21 N (f_X7_keep_l21 N (iI (i : Int)) Q f) (iI (i : Int)) (iI (k : Int)) M' Q
        unfold f_X7_keep_b21
        rw [(f1 0 (by omega)).1, h.1.2.1]
        refine ⟨fun cc => ?_, fun _ => ⟨iI_in0 (by omega) (by omega) (by decide), ?_⟩⟩
        · simp (disch := omega) only [iI_m1, iI_0, iI_1, iI_2, iI_3, iI_4, iI_5, iI_6, iI_7, iI_8, iI_9, iI_10, iI_11, iI_12, iI_13, iI_16, iI_18, iI_20, iI_24, iI_31, iI_32, iI_33, iI_36, iI_48, iI_57, iI_59, iI_63, iI_64, iI_97, iI_100, iI_101, iI_130, iI_255, iI_256, iI_512, iI_1000, iI_1009, iI_2000, iI_2048, iI_32768, iI_2147483647, iI_add, iI_sub, iI_mul, iI_neg, iI_lt, iI_le, iI_eq, iI_in] at cc
          omega
        · unfold f_X2_place
          have e5 : (iI (i : Int) * (4 : Int32) + iI (k : Int)) * (8 : Int32) = iI ((8 * (4 * i + k) : Nat) : Int) := by rw [iI_4, iI_8, iI_mul, iI_add, iI_mul]; congr 1 <;> omega
          rw [e5, cl_iI0, cl_iI8]
          dsimp only
          rw [clN (a := 8 * (4 * i + k)) (by omega), clN (a := k) (by omega)]
          refine ⟨by decide, ?_, by decide, by decide, by omega, fun M7 e7 v e => ?_⟩
          · simp (disch := omega) only [iI_m1, iI_0, iI_1, iI_2, iI_3, iI_4, iI_5, iI_6, iI_7, iI_8, iI_9, iI_10, iI_11, iI_12, iI_13, iI_16, iI_18, iI_20, iI_24, iI_31, iI_32, iI_33, iI_36, iI_48, iI_57, iI_59, iI_63, iI_64, iI_97, iI_100, iI_101, iI_130, iI_255, iI_256, iI_512, iI_1000, iI_1009, iI_2000, iI_2048, iI_32768, iI_2147483647, iI_add, iI_sub, iI_mul, iI_neg, iI_lt, iI_le, iI_eq, iI_in]
            omega
          · simp (disch := omega) only [iI_m1, iI_0, iI_1, iI_2, iI_3, iI_4, iI_5, iI_6, iI_7, iI_8, iI_9, iI_10, iI_11, iI_12, iI_13, iI_16, iI_18, iI_20, iI_24, iI_31, iI_32, iI_33, iI_36, iI_48, iI_57, iI_59, iI_63, iI_64, iI_97, iI_100, iI_101, iI_130, iI_255, iI_256, iI_512, iI_1000, iI_1009, iI_2000, iI_2048, iI_32768, iI_2147483647, iI_add, iI_sub, iI_mul, iI_neg, iI_lt, iI_le, iI_eq, iI_in] at e
            subst e
            have RT0 := (h.1.2.2.1 k (by omega)).2.1
            refine ih f (k + 1) M7 (by omega) (by omega) (f1.tr (by subst e7; exact fz_cp (by decide) (by decide))) (fun j => ?_) (fun j hj => ?_) (fun a ha j hj => ?_)
            · subst e7
              rw [zcp_1, if_neg (by decide)]
              exact q1 j
            · subst e7
              rw [zcp_1, if_pos rfl, if_neg (by omega)]
              exact q2 j hj
            · subst e7
              rw [zcp_1, if_pos rfl]
              by_cases hak : a = k
              · subst hak
                rw [if_pos ⟨by omega, by omega⟩, (f1 (5 + 6 * a + 1) (by omega)).1, show 0 + (8 * (4 * i + a) + j - 8 * (4 * i + a)) = j by omega]
                exact RT0 j hj
              · rw [if_neg (by omega)]
                exact q3 a (by omega) j hj
    refine lp n N 0 M3 (by omega) (by omega) (by subst e3; exact fz_wI (by decide) (by decide)) (fun j => ?_) (fun j hj => ?_) (fun a ha => absurd ha (Nat.not_lt_zero a))
    · subst e3
      rw [zwI_1]
      by_cases hji : j = i
      · rw [if_pos ⟨rfl, hji⟩, if_pos hji]
      · rw [if_neg (by omega), if_neg hji]
    · subst e3
      rw [zwI_1, if_neg (by omega)]
  · rw [ifp_f (by omega), ifp_f (by omega)] at hQ
    exact ⟨fun e => absurd rfl e, fun _ => hQ M fz.rf h⟩
theorem r_keep {N n : Nat} {P : Nat → Nat → Int} {T : TxS} {H : HiS} {I : ImS} {E : SeS} {z : Int} {M : zMem} {Q : Int32 → zMem → Prop} (hN : 100 ≤ N) (h : RR n P T H I E M) (h1 : -2147483648 ≤ z ∧ z < 2147483648) (hQ : ∀ M', fz 47 62 M M' → RR n P T H (nKe P I z) E M' → Q (iI (rKe n z)) M') : f_X8_keep N (iI z) M Q := by
  unfold f_X8_keep
  unfold rKe nKe at hQ
  intro M1 e
  have f1 : fz 47 62 M M1 := by rw [e]; exact fz_0
  have r1 : RR n P T H I E M1 := by rw [e]; exact RR_0 h
  have hn := RR_n r1.1
  have hn1 := hn.1
  refine t_X8_upTo (h := 1) h1.1 h1.2 (by decide) (fun i e1 l1 => ?_) (fun w => ?_)
  · rw [ifp_t (by omega), ifp_t (by omega)] at hQ
    subst e1
    rw [toN] at hQ
    refine ⟨fun _ => ?_, fun e => absurd e (by decide)⟩
    have lp : ∀ (r f k : Nat) (M' : zMem), r + k = 32 → r + 1 ≤ f → fz 47 62 M1 M' → (∀ c j, ¬ (c = 50 ∧ 32 * i ≤ j ∧ j < 32 * i + k) → M'.1 c j = M1.1 c j) → (∀ j, j < k → M'.1 50 (32 * i + j) = M1.1 48 j) → f_X8_keep_l18 N (iI (i : Int)) Q f (iI (k : Int)) M' := by
      intro r
      induction r with
      | zero =>
        intro f k M' hk hf f2 q1 q2
        obtain ⟨f, rfl⟩ : ∃ g, f = g + 1 := ⟨f - 1, by omega⟩
        show f_X8_keep_b18 N (f_X8_keep_l18 N (iI (i : Int)) Q f) (iI (i : Int)) (iI (k : Int)) M' Q
        unfold f_X8_keep_b18
        refine ⟨fun _ => ⟨iI_in0 (by omega) (by omega) (by decide), fun M4 e4 => ?_⟩, fun cc => ?_⟩
        · rw [nar_1, zst_iI (by omega) (by omega), toN] at e4
          have o4 : ∀ c j, ¬ (c = 50 ∧ 32 * i ≤ j ∧ j < 32 * i + k) → ¬ (c = 51 ∧ j = i) → M4.1 c j = M1.1 c j := fun c j w1 w2 => by subst e4; rw [zwI_1, if_neg w2]; exact q1 c j w1
          have n4 : M4.1 47 1 = iI (n : Int) := (o4 _ _ (by omega) (by omega)).trans hn.2
          rw [n4]
          have pp := RR_p r1 (M' := M4) (fun c j => c = 50 ∨ c = 51) (fun c j w => o4 c j (by omega) (by omega))
          refine hQ M4 ((f1.tr f2).tr (by subst e4; exact fz_wI (by decide) (by decide))) ⟨pp.1 ⟨by omega, by omega, fun k => by omega⟩, pp.2.1 ⟨by omega, fun k => by omega⟩, pp.2.2.1 ⟨by omega, fun k => by omega⟩, fun i' hi' => ?_, pp.2.2.2.2 ⟨by omega, fun k => by omega⟩⟩
          dsimp only
          by_cases hii : i' = i
          · subst hii
            refine Or.inr ⟨Or.inr rfl, by subst e4; rw [zwI_1, if_pos ⟨rfl, rfl⟩], fun a ha => ?_⟩
            rw [if_pos rfl]
            refine ⟨(r1.1.1.2.2 a ha).1, fun j hj => ?_⟩
            have e5 : M4.1 50 (32 * i' + 8 * a + j) = M'.1 50 (32 * i' + 8 * a + j) := by subst e4; rw [zwI_1, if_neg (by omega)]
            rw [e5, show 32 * i' + 8 * a + j = 32 * i' + (8 * a + j) by omega, q2 _ (by omega)]
            exact (r1.1.1.2.2 a ha).2 j hj
          · rw [o4 51 i' (by omega) (by omega), if_neg hii]
            rcases r1.2.2.2.1 i' hi' with w | w
            · exact Or.inl ⟨fun w2 => w2.elim w.1 hii, w.2⟩
            · exact Or.inr ⟨Or.inl w.1, w.2.1, fun a ha => ⟨(w.2.2 a ha).1, fun j hj => by rw [o4 _ _ (by omega) (by omega)]; exact (w.2.2 a ha).2 j hj⟩⟩
        · simp (disch := omega) only [iI_m1, iI_0, iI_1, iI_2, iI_3, iI_4, iI_5, iI_6, iI_7, iI_8, iI_9, iI_10, iI_11, iI_12, iI_13, iI_16, iI_18, iI_20, iI_24, iI_31, iI_32, iI_33, iI_36, iI_48, iI_57, iI_59, iI_63, iI_64, iI_97, iI_100, iI_101, iI_130, iI_255, iI_256, iI_512, iI_1000, iI_1009, iI_2000, iI_2048, iI_32768, iI_2147483647, iI_add, iI_sub, iI_mul, iI_neg, iI_lt, iI_le, iI_eq, iI_in] at cc
          omega
      | succ r ih =>
        intro f k M' hk hf f2 q1 q2
        obtain ⟨f, rfl⟩ : ∃ g, f = g + 1 := ⟨f - 1, by omega⟩
        show f_X8_keep_b18 N (f_X8_keep_l18 N (iI (i : Int)) Q f) (iI (i : Int)) (iI (k : Int)) M' Q
        unfold f_X8_keep_b18
        have e5 : (32 : Int32) * iI (i : Int) + iI (k : Int) = iI ((32 * i + k : Nat) : Int) := by rw [iI_32, iI_mul, iI_add]; congr 1 <;> omega
        rw [e5]
        refine ⟨fun cc => ?_, fun _ => ⟨iI_in0 (by omega) (by omega) (by decide), iI_in0 (by omega) (by omega) (by decide), fun M5 g5 v e => ?_⟩⟩
        · simp (disch := omega) only [iI_m1, iI_0, iI_1, iI_2, iI_3, iI_4, iI_5, iI_6, iI_7, iI_8, iI_9, iI_10, iI_11, iI_12, iI_13, iI_16, iI_18, iI_20, iI_24, iI_31, iI_32, iI_33, iI_36, iI_48, iI_57, iI_59, iI_63, iI_64, iI_97, iI_100, iI_101, iI_130, iI_255, iI_256, iI_512, iI_1000, iI_1009, iI_2000, iI_2048, iI_32768, iI_2147483647, iI_add, iI_sub, iI_mul, iI_neg, iI_lt, iI_le, iI_eq, iI_in] at cc
          omega
        · rw [zst_iI (by omega) (by omega), toN, zrd_iI (by omega) (by omega), toN, q1 48 k (by omega)] at g5
          simp (disch := omega) only [iI_m1, iI_0, iI_1, iI_2, iI_3, iI_4, iI_5, iI_6, iI_7, iI_8, iI_9, iI_10, iI_11, iI_12, iI_13, iI_16, iI_18, iI_20, iI_24, iI_31, iI_32, iI_33, iI_36, iI_48, iI_57, iI_59, iI_63, iI_64, iI_97, iI_100, iI_101, iI_130, iI_255, iI_256, iI_512, iI_1000, iI_1009, iI_2000, iI_2048, iI_32768, iI_2147483647, iI_add, iI_sub, iI_mul, iI_neg, iI_lt, iI_le, iI_eq, iI_in] at e
          subst e
          refine ih f (k + 1) M5 (by omega) (by omega) (f2.tr (by subst g5; exact fz_wI (by decide) (by decide))) (fun c j w => ?_) (fun j hj => ?_)
          · subst g5
            rw [zwI_1, if_neg (by omega)]
            exact q1 c j (by omega)
          · subst g5
            rw [zwI_1]
            by_cases hjk : j = k
            · rw [if_pos ⟨rfl, by omega⟩, hjk]
            · rw [if_neg (by omega)]
              exact q2 j (by omega)
    exact lp 32 N 0 M1 (by omega) (by omega) fz.rf (fun c j w => rfl) (fun j hj => by omega)
  · rw [ifp_f (by omega), ifp_f (by omega)] at hQ
    exact ⟨fun e => absurd rfl e, fun _ => hQ M1 f1 r1⟩
noncomputable def rBk (n : Nat) (I : ImS) (z : Int) : Int := ifp (0 ≤ z ∧ z < 2) (ifp (I.1 z.toNat) (n : Int) (-2)) (-1)
noncomputable def pBk (P : Nat → Nat → Int) (I : ImS) (z : Int) : Nat → Nat → Int := ifp ((0 ≤ z ∧ z < 2) ∧ I.1 z.toNat) (I.2 z.toNat) P
noncomputable def hBk (H : HiS) (I : ImS) (z : Int) : HiS := ifp ((0 ≤ z ∧ z < 2) ∧ I.1 z.toNat) (0, H.2) H
theorem c_back {N n : Nat} {P : Nat → Nat → Int} {T : TxS} {H : HiS} {I : ImS} {E : SeS} {z : Int} {M : zMem} {Q : Int32 → zMem → Prop} (hN : 100 ≤ N) (h : RC n P T H I E M) (h1 : -2147483648 ≤ z ∧ z < 2147483648) (hQ : ∀ M', fz 0 46 M M' → RC n (pBk P I z) T (hBk H I z) I E M' → Q (iI (rBk n I z)) M') : f_X7_back N (iI z) M Q := by
  unfold f_X7_back
  unfold rBk pBk hBk at hQ
  have hn := h.1.1
  refine t_X7_isImage h1.1 h1.2 (fun i e1 l1 => ?_) (fun w => ?_)
  · have hv : 0 ≤ z ∧ z < 2 := by omega
    subst e1
    rw [toN, ifp_t hv] at hQ
    refine ⟨fun _ => ⟨iI_in0 (by omega) (by omega) (by decide), ?_⟩, fun e => absurd e (by decide)⟩
    rw [zrd_iI (by omega) (by omega), toN]
    rcases h.2.2.2.1 i l1 with w | w
    · rw [ifp_f (fun q => w.1 q.2), ifp_f w.1, ifp_f (fun q => w.1 q.2)] at hQ
      rw [w.2]
      exact ⟨fun e => absurd rfl e, fun _ => hQ M fz.rf h⟩
    · rw [ifp_t ⟨hv, w.1⟩, ifp_t w.1, ifp_t ⟨hv, w.1⟩] at hQ
      rw [w.2.1]
      refine ⟨fun _ => ?_, fun e => absurd e (by decide)⟩
      have lp : ∀ (r f k : Nat) (M' : zMem), r + k = n → r + 1 ≤ f → fz 5 28 M M' → (∀ a, a < k → RA (I.2 i a) (5 + 6 * a) M') → f_X7_back_l26 N (iI (i : Int)) Q f (iI (k : Int)) M' := by
        intro r
        induction r with
        | zero =>
          intro f k M' hk hf f1 q1
          obtain ⟨f, rfl⟩ : ∃ g, f = g + 1 := ⟨f - 1, by omega⟩
          show f_X7_back_b26 N (f_X7_back_l26 N (iI (i : Int)) Q f) (iI (i : Int)) (iI (k : Int)) M' Q
          unfold f_X7_back_b26
          obtain rfl : k = n := by omega
          rw [(f1 0 (by omega)).1, h.1.2.1]
          refine ⟨fun _ M3 e3 => ?_, fun cc => ?_⟩
          · have f3 : fz 29 29 M' M3 := by subst e3; exact fz_wI (by decide) (by decide)
            refine t_X3_outdate hN (fun M5 f5 c5 => ?_)
            have z5 : M5.1 0 2 = iI (k : Int) := by rw [(f5 0 (by omega)).1, (f3 0 (by omega)).1, (f1 0 (by omega)).1]; exact h.1.2.1
            rw [z5]
            have tT : cT T M5 := cT_fz (cT_fz (cT_fz h.2.1 f1 (by omega)) f3 (by omega)) f5 (by omega)
            have tI : cI k I M5 := cI_fz (cI_fz (cI_fz h.2.2.2.1 f1 (by omega)) f3 (by omega)) f5 (by omega)
            have tS : cS k E M5 := cS_fz (cS_fz (cS_fz h.2.2.2.2 f1 (by omega)) f3 (by omega)) f5 (by omega)
            refine hQ M5 (((fz_wide f1 (by omega) (by omega)).tr (fz_wide f3 (by omega) (by omega))).tr (fz_wide f5 (by omega) (by omega))) ⟨⟨hn, z5, fun a ha => ((q1 a ha).fz f3 (by omega)).fz f5 (by omega), (c5 k _).1, (c5 k _).2⟩, tT, ⟨Nat.zero_le _, ?_, fun i hi => absurd hi (Nat.not_lt_zero i)⟩, tI, tS⟩
            rw [(f5 29 (by omega)).1]
            subst e3
            rw [zwI_1, if_pos ⟨rfl, rfl⟩]
            rfl
          · simp (disch := omega) only [iI_m1, iI_0, iI_1, iI_2, iI_3, iI_4, iI_5, iI_6, iI_7, iI_8, iI_9, iI_10, iI_11, iI_12, iI_13, iI_16, iI_18, iI_20, iI_24, iI_31, iI_32, iI_33, iI_36, iI_48, iI_57, iI_59, iI_63, iI_64, iI_97, iI_100, iI_101, iI_130, iI_255, iI_256, iI_512, iI_1000, iI_1009, iI_2000, iI_2048, iI_32768, iI_2147483647, iI_add, iI_sub, iI_mul, iI_neg, iI_lt, iI_le, iI_eq, iI_in] at cc
            omega
        | succ r ih =>
          intro f k M' hk hf f1 q1
          obtain ⟨f, rfl⟩ : ∃ g, f = g + 1 := ⟨f - 1, by omega⟩
          show f_X7_back_b26 N (f_X7_back_l26 N (iI (i : Int)) Q f) (iI (i : Int)) (iI (k : Int)) M' Q
          unfold f_X7_back_b26
          rw [(f1 0 (by omega)).1, h.1.2.1]
          refine ⟨fun cc => ?_, fun _ => ⟨iI_in0 (by omega) (by omega) (by decide), ?_⟩⟩
          · simp (disch := omega) only [iI_m1, iI_0, iI_1, iI_2, iI_3, iI_4, iI_5, iI_6, iI_7, iI_8, iI_9, iI_10, iI_11, iI_12, iI_13, iI_16, iI_18, iI_20, iI_24, iI_31, iI_32, iI_33, iI_36, iI_48, iI_57, iI_59, iI_63, iI_64, iI_97, iI_100, iI_101, iI_130, iI_255, iI_256, iI_512, iI_1000, iI_1009, iI_2000, iI_2048, iI_32768, iI_2147483647, iI_add, iI_sub, iI_mul, iI_neg, iI_lt, iI_le, iI_eq, iI_in] at cc
            omega
          · unfold f_X2_place
            have e5 : (iI (i : Int) * (4 : Int32) + iI (k : Int)) * (8 : Int32) = iI ((8 * (4 * i + k) : Nat) : Int) := by rw [iI_4, iI_8, iI_mul, iI_add, iI_mul]; congr 1 <;> omega
            rw [e5, clN (by omega)]
            have wk := w.2.2 k (by omega)
            refine t_X0_takes hN wk.1 (by omega) (by rw [show zln 34 = 64 by decide]; omega) (by omega) (fun j hj => by rw [(f1 34 (by omega)).1]; exact wk.2 j hj) (fun M10 f10 a10 => ?_)
            intro v e
            simp (disch := omega) only [iI_m1, iI_0, iI_1, iI_2, iI_3, iI_4, iI_5, iI_6, iI_7, iI_8, iI_9, iI_10, iI_11, iI_12, iI_13, iI_16, iI_18, iI_20, iI_24, iI_31, iI_32, iI_33, iI_36, iI_48, iI_57, iI_59, iI_63, iI_64, iI_97, iI_100, iI_101, iI_130, iI_255, iI_256, iI_512, iI_1000, iI_1009, iI_2000, iI_2048, iI_32768, iI_2147483647, iI_add, iI_sub, iI_mul, iI_neg, iI_lt, iI_le, iI_eq, iI_in] at e
            subst e
            refine ih f (k + 1) M10 (by omega) (by omega) (f1.tr (fz_wide f10 (by omega) (by omega))) (fun a ha => ?_)
            by_cases hak : a = k
            · subst hak; exact a10
            · exact (q1 a (by omega)).fz f10 (by omega)
      exact lp n N 0 M (by omega) (by omega) fz.rf (fun a ha => absurd ha (Nat.not_lt_zero a))
  · rw [ifp_f (by omega), ifp_f (by omega), ifp_f (by omega)] at hQ
    exact ⟨fun e => absurd rfl e, fun _ => hQ M fz.rf h⟩
theorem r_back {N n : Nat} {P : Nat → Nat → Int} {T : TxS} {H : HiS} {I : ImS} {E : SeS} {z : Int} {M : zMem} {Q : Int32 → zMem → Prop} (hN : 100 ≤ N) (h : RR n P T H I E M) (h1 : -2147483648 ≤ z ∧ z < 2147483648) (hQ : ∀ M', fz 47 62 M M' → RR n (pBk P I z) T (hBk H I z) I E M' → Q (iI (rBk n I z)) M') : f_X8_back N (iI z) M Q := by
  unfold f_X8_back
  unfold rBk pBk hBk at hQ
  intro M1 e
  have f1 : fz 47 62 M M1 := by rw [e]; exact fz_0
  have r1 : RR n P T H I E M1 := by rw [e]; exact RR_0 h
  have hn := RR_n r1.1
  have hn1 := hn.1
  refine t_X8_upTo (h := 1) h1.1 h1.2 (by decide) (fun i e1 l1 => ?_) (fun w => ?_)
  · have hv : 0 ≤ z ∧ z < 2 := by omega
    subst e1
    rw [toN, ifp_t hv] at hQ
    refine ⟨fun _ => ⟨iI_in0 (by omega) (by omega) (by decide), ?_⟩, fun e => absurd e (by decide)⟩
    rw [zrd_iI (by omega) (by omega), toN]
    rcases r1.2.2.2.1 i (by omega) with w | w
    · rw [ifp_f (fun q => w.1 q.2), ifp_f w.1, ifp_f (fun q => w.1 q.2)] at hQ
      rw [w.2]
      exact ⟨fun e => absurd rfl e, fun _ => hQ M1 f1 r1⟩
    · rw [ifp_t ⟨hv, w.1⟩, ifp_t w.1, ifp_t ⟨hv, w.1⟩] at hQ
      rw [w.2.1]
      refine ⟨fun _ => ?_, fun e => absurd e (by decide)⟩
      have lp : ∀ (r f k : Nat) (M' : zMem), r + k = 32 → r + 1 ≤ f → fz 47 62 M1 M' → (∀ c j, ¬ (c = 48 ∧ j < k) → M'.1 c j = M1.1 c j) → (∀ j, j < k → M'.1 48 j = M1.1 50 (32 * i + j)) → f_X8_back_l30 N (iI (i : Int)) Q f (iI (k : Int)) M' := by
        intro r
        induction r with
        | zero =>
          intro f k M' hk hf f2 q1 q2
          obtain ⟨f, rfl⟩ : ∃ g, f = g + 1 := ⟨f - 1, by omega⟩
          show f_X8_back_b30 N (f_X8_back_l30 N (iI (i : Int)) Q f) (iI (i : Int)) (iI (k : Int)) M' Q
          unfold f_X8_back_b30
          refine ⟨fun _ M4 e4 M5 e5 => ?_, fun cc => ?_⟩
          · have o5 : ∀ c j, ¬ (c = 48 ∧ j < k) → ¬ (c = 47 ∧ (j = 11 ∨ j = 4)) → M5.1 c j = M1.1 c j := fun c j w1 w2 => by subst e5; rw [zwI_1, if_neg (by omega)]; subst e4; rw [zwI_1, if_neg (by omega)]; exact q1 c j w1
            have n5 : M5.1 47 1 = iI (n : Int) := (o5 _ _ (by omega) (by omega)).trans hn.2
            rw [n5]
            have pp := RR_p r1 (M' := M5) (fun c j => c = 48 ∨ (c = 47 ∧ (j = 11 ∨ j = 4))) (fun c j w => o5 c j (by omega) (by omega))
            refine hQ M5 ((f1.tr f2).tr (by subst e4; subst e5; exact (fz_wI (by decide) (by decide)).tr (fz_wI (by decide) (by decide)))) ⟨⟨⟨hn1, n5, fun a ha => ?_⟩, Or.inl ?_⟩, pp.2.1 ⟨by omega, fun k => by omega⟩, ⟨Nat.zero_le _, ?_, fun i hi => absurd hi (Nat.not_lt_zero i), fun j hj => absurd hj (Nat.not_lt_zero j)⟩, pp.2.2.2.1 (fun k => by omega), pp.2.2.2.2 ⟨by omega, fun k => by omega⟩⟩
            · refine ⟨(w.2.2 a ha).1, fun j hj => ?_⟩
              have e6 : M5.1 48 (8 * a + j) = M'.1 48 (8 * a + j) := by subst e5; rw [zwI_1, if_neg (by omega)]; subst e4; rw [zwI_1, if_neg (by omega)]
              rw [e6, q2 _ (by omega), show 32 * i + (8 * a + j) = 32 * i + 8 * a + j by omega]
              exact (w.2.2 a ha).2 j hj
            · subst e5
              rw [zwI_1, if_neg (by omega)]
              subst e4
              rw [zwI_1, if_pos ⟨rfl, rfl⟩]
            · subst e5
              rw [zwI_1, if_pos ⟨rfl, rfl⟩]
              rfl
          · simp (disch := omega) only [iI_m1, iI_0, iI_1, iI_2, iI_3, iI_4, iI_5, iI_6, iI_7, iI_8, iI_9, iI_10, iI_11, iI_12, iI_13, iI_16, iI_18, iI_20, iI_24, iI_31, iI_32, iI_33, iI_36, iI_48, iI_57, iI_59, iI_63, iI_64, iI_97, iI_100, iI_101, iI_130, iI_255, iI_256, iI_512, iI_1000, iI_1009, iI_2000, iI_2048, iI_32768, iI_2147483647, iI_add, iI_sub, iI_mul, iI_neg, iI_lt, iI_le, iI_eq, iI_in] at cc
            omega
        | succ r ih =>
          intro f k M' hk hf f2 q1 q2
          obtain ⟨f, rfl⟩ : ∃ g, f = g + 1 := ⟨f - 1, by omega⟩
          show f_X8_back_b30 N (f_X8_back_l30 N (iI (i : Int)) Q f) (iI (i : Int)) (iI (k : Int)) M' Q
          unfold f_X8_back_b30
          have e5 : (32 : Int32) * iI (i : Int) + iI (k : Int) = iI ((32 * i + k : Nat) : Int) := by rw [iI_32, iI_mul, iI_add]; congr 1 <;> omega
          rw [e5]
          refine ⟨fun cc => ?_, fun _ => ⟨iI_in0 (by omega) (by omega) (by decide), iI_in0 (by omega) (by omega) (by decide), fun M6 g6 v e => ?_⟩⟩
          · simp (disch := omega) only [iI_m1, iI_0, iI_1, iI_2, iI_3, iI_4, iI_5, iI_6, iI_7, iI_8, iI_9, iI_10, iI_11, iI_12, iI_13, iI_16, iI_18, iI_20, iI_24, iI_31, iI_32, iI_33, iI_36, iI_48, iI_57, iI_59, iI_63, iI_64, iI_97, iI_100, iI_101, iI_130, iI_255, iI_256, iI_512, iI_1000, iI_1009, iI_2000, iI_2048, iI_32768, iI_2147483647, iI_add, iI_sub, iI_mul, iI_neg, iI_lt, iI_le, iI_eq, iI_in] at cc
            omega
          · rw [zst_iI (by omega) (by omega), toN, zrd_iI (by omega) (by omega), toN, q1 50 _ (by omega)] at g6
            simp (disch := omega) only [iI_m1, iI_0, iI_1, iI_2, iI_3, iI_4, iI_5, iI_6, iI_7, iI_8, iI_9, iI_10, iI_11, iI_12, iI_13, iI_16, iI_18, iI_20, iI_24, iI_31, iI_32, iI_33, iI_36, iI_48, iI_57, iI_59, iI_63, iI_64, iI_97, iI_100, iI_101, iI_130, iI_255, iI_256, iI_512, iI_1000, iI_1009, iI_2000, iI_2048, iI_32768, iI_2147483647, iI_add, iI_sub, iI_mul, iI_neg, iI_lt, iI_le, iI_eq, iI_in] at e
            subst e
            refine ih f (k + 1) M6 (by omega) (by omega) (f2.tr (by subst g6; exact fz_wI (by decide) (by decide))) (fun c j w => ?_) (fun j hj => ?_)
            · subst g6
              rw [zwI_1, if_neg (by omega)]
              exact q1 c j (by omega)
            · subst g6
              rw [zwI_1]
              by_cases hjk : j = k
              · rw [if_pos ⟨rfl, by omega⟩, hjk]
              · rw [if_neg (by omega)]
                exact q2 j (by omega)
      exact lp 32 N 0 M1 (by omega) (by omega) fz.rf (fun c j w => rfl) (fun j hj => by omega)
  · rw [ifp_f (by omega), ifp_f (by omega), ifp_f (by omega)] at hQ
    exact ⟨fun e => absurd rfl e, fun _ => hQ M1 f1 r1⟩
