/-! ===== type, clear, sees, forget, count: both sides ===== -/
noncomputable def rTy (T : TxS) (z : Int) : Int := ifp (0 ≤ z ∧ z ≤ 255) (ifp (T.1 < 130) ((T.1 : Int) + 1) (-3)) (-1)
noncomputable def nTy (T : TxS) (z : Int) : TxS := ifp ((0 ≤ z ∧ z ≤ 255) ∧ T.1 < 130) (T.1 + 1, fun k => if k = T.1 then z else T.2 k) T
theorem c_type {N n : Nat} {P : Nat → Nat → Int} {T : TxS} {H : HiS} {I : ImS} {E : SeS} {z : Int} {M : zMem} {Q : Int32 → zMem → Prop} (h : RC n P T H I E M) (h1 : -2147483648 ≤ z ∧ z < 2147483648) (hQ : ∀ M', fz 0 46 M M' → RC n P (nTy T z) H I E M' → Q (iI (rTy T z)) M') : f_X7_type N (iI z) M Q := by
  unfold f_X7_type
  unfold rTy nTy at hQ
  have hT := h.2.1
  have hl := hT.1
  rw [hT.2.1]
  refine ⟨fun c => ?_, fun c => ⟨fun c2 => ⟨fun c3 => ?_, fun c3 => ?_⟩, fun c2 => ?_⟩⟩
  · simp (disch := omega) only [iI_m1, iI_0, iI_1, iI_2, iI_3, iI_4, iI_5, iI_6, iI_7, iI_8, iI_9, iI_10, iI_11, iI_12, iI_13, iI_16, iI_18, iI_20, iI_24, iI_31, iI_32, iI_33, iI_36, iI_48, iI_57, iI_59, iI_63, iI_64, iI_97, iI_100, iI_101, iI_130, iI_255, iI_256, iI_512, iI_1000, iI_1009, iI_2000, iI_2048, iI_32768, iI_2147483647, iI_add, iI_sub, iI_mul, iI_neg, iI_lt, iI_le, iI_eq, iI_in] at c
    rw [ifp_f (by omega), ifp_f (by omega)] at hQ
    exact hQ M fz.rf h
  · simp (disch := omega) only [iI_m1, iI_0, iI_1, iI_2, iI_3, iI_4, iI_5, iI_6, iI_7, iI_8, iI_9, iI_10, iI_11, iI_12, iI_13, iI_16, iI_18, iI_20, iI_24, iI_31, iI_32, iI_33, iI_36, iI_48, iI_57, iI_59, iI_63, iI_64, iI_97, iI_100, iI_101, iI_130, iI_255, iI_256, iI_512, iI_1000, iI_1009, iI_2000, iI_2048, iI_32768, iI_2147483647, iI_add, iI_sub, iI_mul, iI_neg, iI_lt, iI_le, iI_eq, iI_in] at c c2 c3
    rw [ifp_t (by omega), ifp_t (by omega), ifp_t (by omega)] at hQ
    unfold f_X5_adds
    rw [hT.2.1]
    refine ⟨fun c4 => ?_, fun _ => ⟨iI_in0 (by omega) (by omega) (by decide), fun M1 e1 M2 e2 => ?_⟩⟩
    · simp (disch := omega) only [iI_m1, iI_0, iI_1, iI_2, iI_3, iI_4, iI_5, iI_6, iI_7, iI_8, iI_9, iI_10, iI_11, iI_12, iI_13, iI_16, iI_18, iI_20, iI_24, iI_31, iI_32, iI_33, iI_36, iI_48, iI_57, iI_59, iI_63, iI_64, iI_97, iI_100, iI_101, iI_130, iI_255, iI_256, iI_512, iI_1000, iI_1009, iI_2000, iI_2048, iI_32768, iI_2147483647, iI_add, iI_sub, iI_mul, iI_neg, iI_lt, iI_le, iI_eq, iI_in] at c4
      omega
    · rw [zst_iI (by omega) (by omega), toN] at e1
      have q1 : M1.1 1 1 = iI (T.1 : Int) := by subst e1; rw [zwI_1, if_neg (by omega)]; exact hT.2.1
      rw [q1, iI_1, iI_add] at e2
      have q2 : M2.1 1 1 = iI ((T.1 : Int) + 1) := by subst e2; rw [zwI_1, if_pos ⟨rfl, rfl⟩]
      rw [q2]
      have f2 : fz 1 2 M M2 := by subst e1; subst e2; exact (fz_wI (by decide) (by decide)).tr (fz_wI (by decide) (by decide))
      refine hQ M2 (fz_wide f2 (by omega) (by omega)) ⟨cA_fz h.1 f2 (by omega), ⟨by dsimp only; omega, by rw [q2]; rfl, fun k hk => ?_⟩, cH_fz h.2.2.1 f2 (by omega), cI_fz h.2.2.2.1 f2 (by omega), cS_fz h.2.2.2.2 f2 (by omega)⟩
      dsimp only at hk ⊢
      by_cases hkT : k = T.1
      · rw [if_pos hkT]
        refine ⟨by omega, ?_⟩
        subst e2
        rw [zwI_1, if_neg (by omega)]
        subst e1
        rw [zwI_1, if_pos ⟨rfl, hkT⟩]
      · rw [if_neg hkT]
        refine ⟨(hT.2.2 k (by omega)).1, ?_⟩
        subst e2
        rw [zwI_1, if_neg (by omega)]
        subst e1
        rw [zwI_1, if_neg (by omega)]
        exact (hT.2.2 k (by omega)).2
  · simp (disch := omega) only [iI_m1, iI_0, iI_1, iI_2, iI_3, iI_4, iI_5, iI_6, iI_7, iI_8, iI_9, iI_10, iI_11, iI_12, iI_13, iI_16, iI_18, iI_20, iI_24, iI_31, iI_32, iI_33, iI_36, iI_48, iI_57, iI_59, iI_63, iI_64, iI_97, iI_100, iI_101, iI_130, iI_255, iI_256, iI_512, iI_1000, iI_1009, iI_2000, iI_2048, iI_32768, iI_2147483647, iI_add, iI_sub, iI_mul, iI_neg, iI_lt, iI_le, iI_eq, iI_in] at c c2 c3
    rw [ifp_f (by omega), ifp_t (by omega), ifp_f (by omega)] at hQ
    exact hQ M fz.rf h
  · simp (disch := omega) only [iI_m1, iI_0, iI_1, iI_2, iI_3, iI_4, iI_5, iI_6, iI_7, iI_8, iI_9, iI_10, iI_11, iI_12, iI_13, iI_16, iI_18, iI_20, iI_24, iI_31, iI_32, iI_33, iI_36, iI_48, iI_57, iI_59, iI_63, iI_64, iI_97, iI_100, iI_101, iI_130, iI_255, iI_256, iI_512, iI_1000, iI_1009, iI_2000, iI_2048, iI_32768, iI_2147483647, iI_add, iI_sub, iI_mul, iI_neg, iI_lt, iI_le, iI_eq, iI_in] at c2
    rw [ifp_f (by omega), ifp_f (by omega)] at hQ
    exact hQ M fz.rf h
theorem r_type {N n : Nat} {P : Nat → Nat → Int} {T : TxS} {H : HiS} {I : ImS} {E : SeS} {z : Int} {M : zMem} {Q : Int32 → zMem → Prop} (h : RR n P T H I E M) (h1 : -2147483648 ≤ z ∧ z < 2147483648) (hQ : ∀ M', fz 47 62 M M' → RR n P (nTy T z) H I E M' → Q (iI (rTy T z)) M') : f_X8_type N (iI z) M Q := by
  unfold f_X8_type
  unfold rTy nTy at hQ
  intro M1 e
  have f1 : fz 47 62 M M1 := by rw [e]; exact fz_0
  have r1 : RR n P T H I E M1 := by rw [e]; exact RR_0 h
  have hT := r1.2.1
  have hl := hT.1
  refine t_X8_upTo (h := 255) h1.1 h1.2 (by decide) (fun u e1 l1 => ?_) (fun w => ?_)
  · rw [hT.2.1]
    refine ⟨fun _ => ⟨fun c => ?_, fun c => ?_⟩, fun e => absurd e (by decide)⟩
    · simp (disch := omega) only [iI_m1, iI_0, iI_1, iI_2, iI_3, iI_4, iI_5, iI_6, iI_7, iI_8, iI_9, iI_10, iI_11, iI_12, iI_13, iI_16, iI_18, iI_20, iI_24, iI_31, iI_32, iI_33, iI_36, iI_48, iI_57, iI_59, iI_63, iI_64, iI_97, iI_100, iI_101, iI_130, iI_255, iI_256, iI_512, iI_1000, iI_1009, iI_2000, iI_2048, iI_32768, iI_2147483647, iI_add, iI_sub, iI_mul, iI_neg, iI_lt, iI_le, iI_eq, iI_in] at c
      rw [ifp_t (by omega), ifp_t (by omega), ifp_t (by omega)] at hQ
      refine ⟨iI_in0 (by omega) (by omega) (by decide), fun M4 e4 M5 e5 => ?_⟩
      rw [zst_iI (by omega) (by omega), toN] at e4
      have q4 : M4.1 47 12 = iI (T.1 : Int) := by subst e4; rw [zwI_1, if_neg (by omega)]; exact hT.2.1
      rw [q4, iI_1, iI_add] at e5
      have q5 : M5.1 47 12 = iI ((T.1 : Int) + 1) := by subst e5; rw [zwI_1, if_pos ⟨rfl, rfl⟩]
      rw [q5]
      have o5 : ∀ c k, ¬ (c = 55 ∧ k = T.1) → ¬ (c = 47 ∧ k = 12) → M5.1 c k = M1.1 c k := fun c k w1 w2 => by subst e5; rw [zwI_1, if_neg w2]; subst e4; rw [zwI_1, if_neg w1]
      have f5 : fz 47 62 M1 M5 := by subst e4; subst e5; exact (fz_wI (by decide) (by decide)).tr (fz_wI (by decide) (by decide))
      obtain ⟨a1, a2, a3, a4, a5⟩ := r1
      refine hQ M5 (f1.tr f5) ⟨RRl_e a1 (o5 _ _ (by omega) (by omega)) (o5 _ _ (by omega) (by omega)) (funext (fun k => o5 _ _ (by omega) (by omega))) (funext (fun k => o5 _ _ (by omega) (by omega))), ⟨by dsimp only; omega, by rw [q5]; rfl, fun k hk => ?_⟩, ?_, ?_, ?_⟩
      · dsimp only at hk ⊢
        by_cases hkT : k = T.1
        · rw [if_pos hkT]
          refine ⟨by omega, ?_⟩
          subst e5
          rw [zwI_1, if_neg (by omega)]
          subst e4
          rw [zwI_1, if_pos ⟨rfl, hkT⟩]
        · rw [if_neg hkT]
          exact ⟨(hT.2.2 k (by omega)).1, (o5 _ _ (by omega) (by omega)).trans (hT.2.2 k (by omega)).2⟩
      · exact ⟨a3.1, (o5 _ _ (by omega) (by omega)).trans a3.2.1, a3.2.2.1, fun j hj a ha k hk => (o5 _ _ (by omega) (by omega)).trans (a3.2.2.2 j hj a ha k hk)⟩
      · intro i hi
        rcases a4 i hi with q | q
        · exact Or.inl ⟨q.1, (o5 _ _ (by omega) (by omega)).trans q.2⟩
        · exact Or.inr ⟨q.1, (o5 _ _ (by omega) (by omega)).trans q.2.1, fun a ha => ⟨(q.2.2 a ha).1, fun k hk => (o5 _ _ (by omega) (by omega)).trans ((q.2.2 a ha).2 k hk)⟩⟩
      · exact ⟨a5.1, (o5 _ _ (by omega) (by omega)).trans a5.2.1, fun j hj => ⟨(a5.2.2 j hj).1, (a5.2.2 j hj).2.1, (o5 _ _ (by omega) (by omega)).trans (a5.2.2 j hj).2.2.1, (o5 _ _ (by omega) (by omega)).trans (a5.2.2 j hj).2.2.2⟩⟩
    · simp (disch := omega) only [iI_m1, iI_0, iI_1, iI_2, iI_3, iI_4, iI_5, iI_6, iI_7, iI_8, iI_9, iI_10, iI_11, iI_12, iI_13, iI_16, iI_18, iI_20, iI_24, iI_31, iI_32, iI_33, iI_36, iI_48, iI_57, iI_59, iI_63, iI_64, iI_97, iI_100, iI_101, iI_130, iI_255, iI_256, iI_512, iI_1000, iI_1009, iI_2000, iI_2048, iI_32768, iI_2147483647, iI_add, iI_sub, iI_mul, iI_neg, iI_lt, iI_le, iI_eq, iI_in] at c
      rw [ifp_f (by omega), ifp_t (by omega), ifp_f (by omega)] at hQ
      exact hQ M1 f1 r1
  · rw [ifp_f (by omega), ifp_f (by omega)] at hQ
    exact ⟨fun e => absurd rfl e, fun _ => hQ M1 f1 r1⟩
/-- the reference's state when only some fields or cells of its own have changed -/
theorem RR_p {n : Nat} {P : Nat → Nat → Int} {T : TxS} {H : HiS} {I : ImS} {E : SeS} {M M' : zMem} (h : RR n P T H I E M) (W : Nat → Nat → Prop) (o : ∀ c k, ¬ W c k → M'.1 c k = M.1 c k) : ((¬ W 47 1 ∧ ¬ W 47 11 ∧ ∀ k, ¬ W 48 k ∧ ¬ W 54 k) → RRl n P M') ∧ ((¬ W 47 12 ∧ ∀ k, ¬ W 55 k) → rT T M') ∧ ((¬ W 47 4 ∧ ∀ k, ¬ W 49 k) → rH n P H M') ∧ ((∀ k, ¬ W 50 k ∧ ¬ W 51 k) → rI n I M') ∧ ((¬ W 47 7 ∧ ∀ k, ¬ W 52 k ∧ ¬ W 53 k) → rS n E M') := by
  obtain ⟨a1, a2, a3, a4, a5⟩ := h
  refine ⟨fun w => RRl_e a1 (o _ _ w.1) (o _ _ w.2.1) (funext (fun k => o _ _ (w.2.2 k).1)) (funext (fun k => o _ _ (w.2.2 k).2)), fun w => ⟨a2.1, (o _ _ w.1).trans a2.2.1, fun k hk => ⟨(a2.2.2 k hk).1, (o _ _ (w.2 _)).trans (a2.2.2 k hk).2⟩⟩, fun w => ⟨a3.1, (o _ _ w.1).trans a3.2.1, a3.2.2.1, fun j hj a ha k hk => (o _ _ (w.2 _)).trans (a3.2.2.2 j hj a ha k hk)⟩, fun w i hi => ?_, fun w => ⟨a5.1, (o _ _ w.1).trans a5.2.1, fun j hj => ⟨(a5.2.2 j hj).1, (a5.2.2 j hj).2.1, (o _ _ (w.2 _).1).trans (a5.2.2 j hj).2.2.1, (o _ _ (w.2 _).2).trans (a5.2.2 j hj).2.2.2⟩⟩⟩
  rcases a4 i hi with q | q
  · exact Or.inl ⟨q.1, (o _ _ (w _).2).trans q.2⟩
  · exact Or.inr ⟨q.1, (o _ _ (w _).2).trans q.2.1, fun a ha => ⟨(q.2.2 a ha).1, fun k hk => (o _ _ (w _).1).trans ((q.2.2 a ha).2 k hk)⟩⟩
theorem c_clear {N n : Nat} {P : Nat → Nat → Int} {T : TxS} {H : HiS} {I : ImS} {E : SeS} {M : zMem} {Q : Int32 → zMem → Prop} (h : RC n P T H I E M) (hQ : ∀ M', fz 0 46 M M' → RC n P (0, T.2) H I E M' → Q (iI (T.1 : Int)) M') : f_X7_clear N M Q := by
  unfold f_X7_clear f_X5_empties
  intro v1 e1 M2 e2
  rw [h.2.1.2.1] at e1
  subst e1
  have f2 : fz 1 1 M M2 := by subst e2; exact fz_wI (by decide) (by decide)
  refine hQ M2 (fz_wide f2 (by omega) (by omega)) ⟨cA_fz h.1 f2 (by omega), ⟨Nat.zero_le _, by subst e2; rw [zwI_1, if_pos ⟨rfl, rfl⟩]; rfl, fun k hk => absurd hk (Nat.not_lt_zero k)⟩, cH_fz h.2.2.1 f2 (by omega), cI_fz h.2.2.2.1 f2 (by omega), cS_fz h.2.2.2.2 f2 (by omega)⟩
theorem r_clear {N n : Nat} {P : Nat → Nat → Int} {T : TxS} {H : HiS} {I : ImS} {E : SeS} {M : zMem} {Q : Int32 → zMem → Prop} (h : RR n P T H I E M) (hQ : ∀ M', fz 47 62 M M' → RR n P (0, T.2) H I E M' → Q (iI (T.1 : Int)) M') : f_X8_clear N M Q := by
  unfold f_X8_clear
  intro M1 e v1 e1 M2 e2
  have f1 : fz 47 62 M M1 := by rw [e]; exact fz_0
  have r1 : RR n P T H I E M1 := by rw [e]; exact RR_0 h
  rw [r1.2.1.2.1] at e1
  subst e1
  have pp := RR_p r1 (M' := M2) (fun c k => c = 47 ∧ k = 12) (fun c k w => by subst e2; rw [zwI_1, if_neg w])
  refine hQ M2 (f1.tr (by subst e2; exact fz_wI (by decide) (by decide))) ⟨pp.1 ⟨by omega, by omega, fun k => by omega⟩, ⟨Nat.zero_le _, by subst e2; rw [zwI_1, if_pos ⟨rfl, rfl⟩]; rfl, fun k hk => absurd hk (Nat.not_lt_zero k)⟩, pp.2.2.1 ⟨by omega, fun k => by omega⟩, pp.2.2.2.1 (fun k => by omega), pp.2.2.2.2 ⟨by omega, fun k => by omega⟩⟩
theorem c_forget {N n : Nat} {P : Nat → Nat → Int} {T : TxS} {H : HiS} {I : ImS} {E : SeS} {M : zMem} {Q : Int32 → zMem → Prop} (h : RC n P T H I E M) (hQ : ∀ M', fz 0 46 M M' → RC n P T H I (0, E.2) M' → Q (iI (E.1 : Int)) M') : f_X7_forget N M Q := by
  unfold f_X7_forget
  intro v1 e1 M2 e2
  rw [h.2.2.2.2.2.1] at e1
  subst e1
  have f2 : fz 35 35 M M2 := by subst e2; exact fz_wI (by decide) (by decide)
  refine hQ M2 (fz_wide f2 (by omega) (by omega)) ⟨cA_fz h.1 f2 (by omega), cT_fz h.2.1 f2 (by omega), cH_fz h.2.2.1 f2 (by omega), cI_fz h.2.2.2.1 f2 (by omega), ⟨Nat.zero_le _, by subst e2; rw [zwI_1, if_pos ⟨rfl, rfl⟩]; rfl, fun k hk => absurd hk (Nat.not_lt_zero k)⟩⟩
theorem r_forget {N n : Nat} {P : Nat → Nat → Int} {T : TxS} {H : HiS} {I : ImS} {E : SeS} {M : zMem} {Q : Int32 → zMem → Prop} (h : RR n P T H I E M) (hQ : ∀ M', fz 47 62 M M' → RR n P T H I (0, E.2) M' → Q (iI (E.1 : Int)) M') : f_X8_forget N M Q := by
  unfold f_X8_forget
  intro M1 e v1 e1 M2 e2
  have f1 : fz 47 62 M M1 := by rw [e]; exact fz_0
  have r1 : RR n P T H I E M1 := by rw [e]; exact RR_0 h
  rw [r1.2.2.2.2.2.1] at e1
  subst e1
  have pp := RR_p r1 (M' := M2) (fun c k => c = 47 ∧ k = 7) (fun c k w => by subst e2; rw [zwI_1, if_neg w])
  refine hQ M2 (f1.tr (by subst e2; exact fz_wI (by decide) (by decide))) ⟨pp.1 ⟨by omega, by omega, fun k => by omega⟩, pp.2.1 ⟨by omega, fun k => by omega⟩, pp.2.2.1 ⟨by omega, fun k => by omega⟩, pp.2.2.2.1 (fun k => by omega), ⟨Nat.zero_le _, by subst e2; rw [zwI_1, if_pos ⟨rfl, rfl⟩]; rfl, fun k hk => absurd hk (Nat.not_lt_zero k)⟩⟩
noncomputable def vCount (n : Nat) (T : TxS) (H : HiS) (E : SeS) (z : Int) : Int := ifp (z = 0) (n : Int) (ifp (z = 1) (E.1 : Int) (ifp (z = 2) (T.1 : Int) (ifp (z = 3) (H.1 : Int) (-1))))
theorem c_cnt {N n : Nat} {P : Nat → Nat → Int} {T : TxS} {H : HiS} {I : ImS} {E : SeS} {z : Int} {M : zMem} {Q : Int32 → zMem → Prop} (h : RC n P T H I E M) (h1 : -2147483648 ≤ z ∧ z < 2147483648) (hQ : Q (iI (vCount n T H E z)) M) : f_X7_count N (iI z) M Q := by
  unfold f_X7_count
  unfold vCount at hQ
  rw [h.1.2.1, h.2.2.2.2.2.1, h.2.1.2.1, h.2.2.1.2.1, iI_toInt h1.1 h1.2]
  refine ⟨fun w => ?_, fun w => ?_, fun w => ?_, fun w => ?_, fun w => ?_⟩
  · simp (disch := omega) only [iI_m1, iI_0, iI_1, iI_2, iI_3, iI_4, iI_5, iI_6, iI_7, iI_8, iI_9, iI_10, iI_11, iI_12, iI_13, iI_16, iI_18, iI_20, iI_24, iI_31, iI_32, iI_33, iI_36, iI_48, iI_57, iI_59, iI_63, iI_64, iI_97, iI_100, iI_101, iI_130, iI_255, iI_256, iI_512, iI_1000, iI_1009, iI_2000, iI_2048, iI_32768, iI_2147483647, iI_add, iI_sub, iI_mul, iI_neg, iI_lt, iI_le, iI_eq, iI_in] at w
    rw [ifp_t w] at hQ
    exact hQ
  · simp (disch := omega) only [iI_m1, iI_0, iI_1, iI_2, iI_3, iI_4, iI_5, iI_6, iI_7, iI_8, iI_9, iI_10, iI_11, iI_12, iI_13, iI_16, iI_18, iI_20, iI_24, iI_31, iI_32, iI_33, iI_36, iI_48, iI_57, iI_59, iI_63, iI_64, iI_97, iI_100, iI_101, iI_130, iI_255, iI_256, iI_512, iI_1000, iI_1009, iI_2000, iI_2048, iI_32768, iI_2147483647, iI_add, iI_sub, iI_mul, iI_neg, iI_lt, iI_le, iI_eq, iI_in] at w
    rw [ifp_f (by omega), ifp_t w] at hQ
    exact hQ
  · simp (disch := omega) only [iI_m1, iI_0, iI_1, iI_2, iI_3, iI_4, iI_5, iI_6, iI_7, iI_8, iI_9, iI_10, iI_11, iI_12, iI_13, iI_16, iI_18, iI_20, iI_24, iI_31, iI_32, iI_33, iI_36, iI_48, iI_57, iI_59, iI_63, iI_64, iI_97, iI_100, iI_101, iI_130, iI_255, iI_256, iI_512, iI_1000, iI_1009, iI_2000, iI_2048, iI_32768, iI_2147483647, iI_add, iI_sub, iI_mul, iI_neg, iI_lt, iI_le, iI_eq, iI_in] at w
    rw [ifp_f (by omega), ifp_f (by omega), ifp_t w] at hQ
    exact hQ
  · simp (disch := omega) only [iI_m1, iI_0, iI_1, iI_2, iI_3, iI_4, iI_5, iI_6, iI_7, iI_8, iI_9, iI_10, iI_11, iI_12, iI_13, iI_16, iI_18, iI_20, iI_24, iI_31, iI_32, iI_33, iI_36, iI_48, iI_57, iI_59, iI_63, iI_64, iI_97, iI_100, iI_101, iI_130, iI_255, iI_256, iI_512, iI_1000, iI_1009, iI_2000, iI_2048, iI_32768, iI_2147483647, iI_add, iI_sub, iI_mul, iI_neg, iI_lt, iI_le, iI_eq, iI_in] at w
    rw [ifp_f (by omega), ifp_f (by omega), ifp_f (by omega), ifp_t w] at hQ
    exact hQ
  · rw [ifp_f (by omega), ifp_f (by omega), ifp_f (by omega), ifp_f (by omega)] at hQ
    exact hQ
theorem r_cnt {N n : Nat} {P : Nat → Nat → Int} {T : TxS} {H : HiS} {I : ImS} {E : SeS} {z : Int} {M : zMem} {Q : Int32 → zMem → Prop} (h : RR n P T H I E M) (h1 : -2147483648 ≤ z ∧ z < 2147483648) (hQ : ∀ M', fz 47 62 M M' → RR n P T H I E M' → Q (iI (vCount n T H E z)) M') : f_X8_count N (iI z) M Q := by
  unfold f_X8_count
  intro M1 e
  have f1 : fz 47 62 M M1 := by rw [e]; exact fz_0
  have r1 : RR n P T H I E M1 := by rw [e]; exact RR_0 h
  have hQ := hQ M1 f1 r1
  unfold vCount at hQ
  rw [(RR_n r1.1).2, r1.2.2.2.2.2.1, r1.2.1.2.1, r1.2.2.1.2.1, iI_toInt h1.1 h1.2]
  refine ⟨fun w => ?_, fun w => ?_, fun w => ?_, fun w => ?_, fun w => ?_⟩
  · simp (disch := omega) only [iI_m1, iI_0, iI_1, iI_2, iI_3, iI_4, iI_5, iI_6, iI_7, iI_8, iI_9, iI_10, iI_11, iI_12, iI_13, iI_16, iI_18, iI_20, iI_24, iI_31, iI_32, iI_33, iI_36, iI_48, iI_57, iI_59, iI_63, iI_64, iI_97, iI_100, iI_101, iI_130, iI_255, iI_256, iI_512, iI_1000, iI_1009, iI_2000, iI_2048, iI_32768, iI_2147483647, iI_add, iI_sub, iI_mul, iI_neg, iI_lt, iI_le, iI_eq, iI_in] at w
    rw [ifp_t w] at hQ
    exact hQ
  · simp (disch := omega) only [iI_m1, iI_0, iI_1, iI_2, iI_3, iI_4, iI_5, iI_6, iI_7, iI_8, iI_9, iI_10, iI_11, iI_12, iI_13, iI_16, iI_18, iI_20, iI_24, iI_31, iI_32, iI_33, iI_36, iI_48, iI_57, iI_59, iI_63, iI_64, iI_97, iI_100, iI_101, iI_130, iI_255, iI_256, iI_512, iI_1000, iI_1009, iI_2000, iI_2048, iI_32768, iI_2147483647, iI_add, iI_sub, iI_mul, iI_neg, iI_lt, iI_le, iI_eq, iI_in] at w
    rw [ifp_f (by omega), ifp_t w] at hQ
    exact hQ
  · simp (disch := omega) only [iI_m1, iI_0, iI_1, iI_2, iI_3, iI_4, iI_5, iI_6, iI_7, iI_8, iI_9, iI_10, iI_11, iI_12, iI_13, iI_16, iI_18, iI_20, iI_24, iI_31, iI_32, iI_33, iI_36, iI_48, iI_57, iI_59, iI_63, iI_64, iI_97, iI_100, iI_101, iI_130, iI_255, iI_256, iI_512, iI_1000, iI_1009, iI_2000, iI_2048, iI_32768, iI_2147483647, iI_add, iI_sub, iI_mul, iI_neg, iI_lt, iI_le, iI_eq, iI_in] at w
    rw [ifp_f (by omega), ifp_f (by omega), ifp_t w] at hQ
    exact hQ
  · simp (disch := omega) only [iI_m1, iI_0, iI_1, iI_2, iI_3, iI_4, iI_5, iI_6, iI_7, iI_8, iI_9, iI_10, iI_11, iI_12, iI_13, iI_16, iI_18, iI_20, iI_24, iI_31, iI_32, iI_33, iI_36, iI_48, iI_57, iI_59, iI_63, iI_64, iI_97, iI_100, iI_101, iI_130, iI_255, iI_256, iI_512, iI_1000, iI_1009, iI_2000, iI_2048, iI_32768, iI_2147483647, iI_add, iI_sub, iI_mul, iI_neg, iI_lt, iI_le, iI_eq, iI_in] at w
    rw [ifp_f (by omega), ifp_f (by omega), ifp_f (by omega), ifp_t w] at hQ
    exact hQ
  · rw [ifp_f (by omega), ifp_f (by omega), ifp_f (by omega), ifp_f (by omega)] at hQ
    exact hQ
noncomputable def rSe (n : Nat) (E : SeS) (z1 z2 : Int) : Int := ifp ((0 ≤ z1 ∧ z1 < n) ∧ (0 ≤ z2 ∧ z2 ≤ 101)) (ifp (E.1 < 6) ((E.1 : Int) + 1) (-3)) (-1)
noncomputable def nSe (n : Nat) (E : SeS) (z1 z2 : Int) : SeS := ifp (((0 ≤ z1 ∧ z1 < n) ∧ (0 ≤ z2 ∧ z2 ≤ 101)) ∧ E.1 < 6) (E.1 + 1, upL E.2.1 E.1 z1.toNat, upL E.2.2 E.1 z2.toNat) E
theorem c_sees {N n : Nat} {P : Nat → Nat → Int} {T : TxS} {H : HiS} {I : ImS} {E : SeS} {z1 z2 : Int} {M : zMem} {Q : Int32 → zMem → Prop} (h : RC n P T H I E M) (h1 : -2147483648 ≤ z1 ∧ z1 < 2147483648) (h2 : -2147483648 ≤ z2 ∧ z2 < 2147483648) (hQ : ∀ M', fz 0 46 M M' → RC n P T H I (nSe n E z1 z2) M' → Q (iI (rSe n E z1 z2)) M') : f_X7_sees N (iI z1) (iI z2) M Q := by
  unfold f_X7_sees
  unfold rSe nSe at hQ
  have hE := h.2.2.2.2
  have hl := hE.1
  refine t_X7_isArc h.1.1 h.1.2.1 h1.1 h1.2 (fun a e1 l1 => ?_) (fun w => ?_)
  · rw [hE.2.1]
    refine ⟨fun e => absurd e (by decide), fun _ => ⟨fun c => ?_, fun c => ⟨fun c2 => ⟨fun c3 => ?_, fun c3 => ?_⟩, fun c2 => ?_⟩⟩⟩
    · simp (disch := omega) only [iI_m1, iI_0, iI_1, iI_2, iI_3, iI_4, iI_5, iI_6, iI_7, iI_8, iI_9, iI_10, iI_11, iI_12, iI_13, iI_16, iI_18, iI_20, iI_24, iI_31, iI_32, iI_33, iI_36, iI_48, iI_57, iI_59, iI_63, iI_64, iI_97, iI_100, iI_101, iI_130, iI_255, iI_256, iI_512, iI_1000, iI_1009, iI_2000, iI_2048, iI_32768, iI_2147483647, iI_add, iI_sub, iI_mul, iI_neg, iI_lt, iI_le, iI_eq, iI_in] at c
      rw [ifp_f (by omega), ifp_f (by omega)] at hQ
      exact hQ M fz.rf h
    · simp (disch := omega) only [iI_m1, iI_0, iI_1, iI_2, iI_3, iI_4, iI_5, iI_6, iI_7, iI_8, iI_9, iI_10, iI_11, iI_12, iI_13, iI_16, iI_18, iI_20, iI_24, iI_31, iI_32, iI_33, iI_36, iI_48, iI_57, iI_59, iI_63, iI_64, iI_97, iI_100, iI_101, iI_130, iI_255, iI_256, iI_512, iI_1000, iI_1009, iI_2000, iI_2048, iI_32768, iI_2147483647, iI_add, iI_sub, iI_mul, iI_neg, iI_lt, iI_le, iI_eq, iI_in] at c c2 c3
      rw [ifp_t (by omega), ifp_t (by omega), ifp_t (by omega)] at hQ
      unfold f_X6_adds
      rw [hE.2.1]
      have v6 : vp_in (iI (E.1 : Int)) 6 := iI_in0 (by omega) (by omega) (by decide)
      refine ⟨fun c4 => ?_, fun _ => ⟨v6, fun M1 g1 => ?_⟩⟩
      · simp (disch := omega) only [iI_m1, iI_0, iI_1, iI_2, iI_3, iI_4, iI_5, iI_6, iI_7, iI_8, iI_9, iI_10, iI_11, iI_12, iI_13, iI_16, iI_18, iI_20, iI_24, iI_31, iI_32, iI_33, iI_36, iI_48, iI_57, iI_59, iI_63, iI_64, iI_97, iI_100, iI_101, iI_130, iI_255, iI_256, iI_512, iI_1000, iI_1009, iI_2000, iI_2048, iI_32768, iI_2147483647, iI_add, iI_sub, iI_mul, iI_neg, iI_lt, iI_le, iI_eq, iI_in] at c4
        omega
      rw [zst_iI (by omega) (by omega), toN] at g1
      have q1 : M1.1 35 2 = iI (E.1 : Int) := by subst g1; rw [zwI_1, if_neg (by omega)]; exact hE.2.1
      rw [q1]
      refine ⟨v6, fun M2 g2 M3 g3 => ?_⟩
      rw [zst_iI (by omega) (by omega), toN] at g2
      have q2 : M2.1 35 2 = iI (E.1 : Int) := by subst g2; rw [zwI_1, if_neg (by omega)]; exact q1
      rw [q2, iI_1, iI_add] at g3
      have q3 : M3.1 35 2 = iI ((E.1 : Int) + 1) := by subst g3; rw [zwI_1, if_pos ⟨rfl, rfl⟩]
      rw [q3]
      have f3 : fz 35 37 M M3 := by subst g1; subst g2; subst g3; exact ((fz_wI (by decide) (by decide)).tr (fz_wI (by decide) (by decide))).tr (fz_wI (by decide) (by decide))
      refine hQ M3 (fz_wide f3 (by omega) (by omega)) ⟨cA_fz h.1 f3 (by omega), cT_fz h.2.1 f3 (by omega), cH_fz h.2.2.1 f3 (by omega), cI_fz h.2.2.2.1 f3 (by omega), ⟨by dsimp only; omega, by rw [q3]; rfl, fun j hj => ?_⟩⟩
      dsimp only at hj ⊢
      by_cases hjE : j = E.1
      · subst hjE
        rw [upL_1, upL_1]
        refine ⟨by omega, by omega, ?_, ?_⟩
        · rw [show ((z1.toNat : Nat) : Int) = z1 by omega]
          subst g1; subst g2; subst g3
          rw [zwI_1, if_neg (by omega), zwI_1, if_neg (by omega), zwI_1, if_pos ⟨rfl, rfl⟩]
        · rw [show ((z2.toNat : Nat) : Int) = z2 by omega]
          subst g1; subst g2; subst g3
          rw [zwI_1, if_neg (by omega), zwI_1, if_pos ⟨rfl, rfl⟩]
      · rw [upL_2 hjE, upL_2 hjE]
        obtain ⟨s1, s2, s3, s4⟩ := hE.2.2 j (by omega)
        refine ⟨s1, s2, ?_, ?_⟩
        · subst g1; subst g2; subst g3
          rw [zwI_1, if_neg (by omega), zwI_1, if_neg (by omega), zwI_1, if_neg (by omega)]
          exact s3
        · subst g1; subst g2; subst g3
          rw [zwI_1, if_neg (by omega), zwI_1, if_neg (by omega), zwI_1, if_neg (by omega)]
          exact s4
    · simp (disch := omega) only [iI_m1, iI_0, iI_1, iI_2, iI_3, iI_4, iI_5, iI_6, iI_7, iI_8, iI_9, iI_10, iI_11, iI_12, iI_13, iI_16, iI_18, iI_20, iI_24, iI_31, iI_32, iI_33, iI_36, iI_48, iI_57, iI_59, iI_63, iI_64, iI_97, iI_100, iI_101, iI_130, iI_255, iI_256, iI_512, iI_1000, iI_1009, iI_2000, iI_2048, iI_32768, iI_2147483647, iI_add, iI_sub, iI_mul, iI_neg, iI_lt, iI_le, iI_eq, iI_in] at c c2 c3
      rw [ifp_f (by omega), ifp_t (by omega), ifp_f (by omega)] at hQ
      exact hQ M fz.rf h
    · simp (disch := omega) only [iI_m1, iI_0, iI_1, iI_2, iI_3, iI_4, iI_5, iI_6, iI_7, iI_8, iI_9, iI_10, iI_11, iI_12, iI_13, iI_16, iI_18, iI_20, iI_24, iI_31, iI_32, iI_33, iI_36, iI_48, iI_57, iI_59, iI_63, iI_64, iI_97, iI_100, iI_101, iI_130, iI_255, iI_256, iI_512, iI_1000, iI_1009, iI_2000, iI_2048, iI_32768, iI_2147483647, iI_add, iI_sub, iI_mul, iI_neg, iI_lt, iI_le, iI_eq, iI_in] at c2
      rw [ifp_f (by omega), ifp_f (by omega)] at hQ
      exact hQ M fz.rf h
  · rw [ifp_f (by omega), ifp_f (by omega)] at hQ
    exact ⟨fun _ => hQ M fz.rf h, fun e => absurd rfl e⟩
theorem r_sees {N n : Nat} {P : Nat → Nat → Int} {T : TxS} {H : HiS} {I : ImS} {E : SeS} {z1 z2 : Int} {M : zMem} {Q : Int32 → zMem → Prop} (h : RR n P T H I E M) (h1 : -2147483648 ≤ z1 ∧ z1 < 2147483648) (h2 : -2147483648 ≤ z2 ∧ z2 < 2147483648) (hQ : ∀ M', fz 47 62 M M' → RR n P T H I (nSe n E z1 z2) M' → Q (iI (rSe n E z1 z2)) M') : f_X8_sees N (iI z1) (iI z2) M Q := by
  unfold f_X8_sees
  unfold rSe nSe at hQ
  intro M1 e
  have f1 : fz 47 62 M M1 := by rw [e]; exact fz_0
  have r1 : RR n P T H I E M1 := by rw [e]; exact RR_0 h
  have hn := RR_n r1.1
  have hE := r1.2.2.2.2
  have hl := hE.1
  refine t_X8_isArc hn.1 hn.2 h1.1 h1.2 (fun a e1 l1 => ?_) (fun w => ?_)
  · refine ⟨fun e => absurd e (by decide), fun _ => ?_⟩
    refine t_X8_upTo (h := 101) h2.1 h2.2 (by decide) (fun u e2 l2 => ?_) (fun w => ?_)
    · rw [hE.2.1]
      refine ⟨fun _ => ⟨fun c => ?_, fun c => ?_⟩, fun e => absurd e (by decide)⟩
      · simp (disch := omega) only [iI_m1, iI_0, iI_1, iI_2, iI_3, iI_4, iI_5, iI_6, iI_7, iI_8, iI_9, iI_10, iI_11, iI_12, iI_13, iI_16, iI_18, iI_20, iI_24, iI_31, iI_32, iI_33, iI_36, iI_48, iI_57, iI_59, iI_63, iI_64, iI_97, iI_100, iI_101, iI_130, iI_255, iI_256, iI_512, iI_1000, iI_1009, iI_2000, iI_2048, iI_32768, iI_2147483647, iI_add, iI_sub, iI_mul, iI_neg, iI_lt, iI_le, iI_eq, iI_in] at c
        rw [ifp_t (by omega), ifp_t (by omega), ifp_t (by omega)] at hQ
        have v6 : vp_in (iI (E.1 : Int)) 6 := iI_in0 (by omega) (by omega) (by decide)
        refine ⟨v6, fun M6 g6 => ?_⟩
        rw [zst_iI (by omega) (by omega), toN] at g6
        have q6 : M6.1 47 7 = iI (E.1 : Int) := by subst g6; rw [zwI_1, if_neg (by omega)]; exact hE.2.1
        rw [q6]
        refine ⟨v6, fun M7 g7 M8 g8 => ?_⟩
        rw [zst_iI (by omega) (by omega), toN] at g7
        have q7 : M7.1 47 7 = iI (E.1 : Int) := by subst g7; rw [zwI_1, if_neg (by omega)]; exact q6
        rw [q7, iI_1, iI_add] at g8
        have q8 : M8.1 47 7 = iI ((E.1 : Int) + 1) := by subst g8; rw [zwI_1, if_pos ⟨rfl, rfl⟩]
        rw [q8]
        have pp := RR_p r1 (M' := M8) (fun c k => (c = 47 ∧ k = 7) ∨ c = 52 ∨ c = 53) (fun c k w => by subst g8; rw [zwI_1, if_neg (by omega)]; subst g7; rw [zwI_1, if_neg (by omega)]; subst g6; rw [zwI_1, if_neg (by omega)])
        have f8 : fz 47 62 M1 M8 := by subst g6; subst g7; subst g8; exact ((fz_wI (by decide) (by decide)).tr (fz_wI (by decide) (by decide))).tr (fz_wI (by decide) (by decide))
        refine hQ M8 (f1.tr f8) ⟨pp.1 ⟨by omega, by omega, fun k => by omega⟩, pp.2.1 ⟨by omega, fun k => by omega⟩, pp.2.2.1 ⟨by omega, fun k => by omega⟩, pp.2.2.2.1 (fun k => by omega), ⟨by dsimp only; omega, by rw [q8]; rfl, fun j hj => ?_⟩⟩
        dsimp only at hj ⊢
        by_cases hjE : j = E.1
        · subst hjE
          rw [upL_1, upL_1]
          refine ⟨by omega, by omega, ?_, ?_⟩
          · rw [show ((z1.toNat : Nat) : Int) = z1 by omega]
            subst g6; subst g7; subst g8
            rw [zwI_1, if_neg (by omega), zwI_1, if_neg (by omega), zwI_1, if_pos ⟨rfl, rfl⟩]
          · rw [show ((z2.toNat : Nat) : Int) = z2 by omega]
            subst g6; subst g7; subst g8
            rw [zwI_1, if_neg (by omega), zwI_1, if_pos ⟨rfl, rfl⟩]
        · rw [upL_2 hjE, upL_2 hjE]
          obtain ⟨s1, s2, s3, s4⟩ := hE.2.2 j (by omega)
          refine ⟨s1, s2, ?_, ?_⟩
          · subst g6; subst g7; subst g8
            rw [zwI_1, if_neg (by omega), zwI_1, if_neg (by omega), zwI_1, if_neg (by omega)]
            exact s3
          · subst g6; subst g7; subst g8
            rw [zwI_1, if_neg (by omega), zwI_1, if_neg (by omega), zwI_1, if_neg (by omega)]
            exact s4
      · simp (disch := omega) only [iI_m1, iI_0, iI_1, iI_2, iI_3, iI_4, iI_5, iI_6, iI_7, iI_8, iI_9, iI_10, iI_11, iI_12, iI_13, iI_16, iI_18, iI_20, iI_24, iI_31, iI_32, iI_33, iI_36, iI_48, iI_57, iI_59, iI_63, iI_64, iI_97, iI_100, iI_101, iI_130, iI_255, iI_256, iI_512, iI_1000, iI_1009, iI_2000, iI_2048, iI_32768, iI_2147483647, iI_add, iI_sub, iI_mul, iI_neg, iI_lt, iI_le, iI_eq, iI_in] at c
        rw [ifp_f (by omega), ifp_t (by omega), ifp_f (by omega)] at hQ
        exact hQ M1 f1 r1
    · rw [ifp_f (by omega), ifp_f (by omega)] at hQ
      exact ⟨fun e => absurd rfl e, fun _ => hQ M1 f1 r1⟩
  · rw [ifp_f (by omega), ifp_f (by omega)] at hQ
    exact ⟨fun _ => hQ M1 f1 r1, fun e => absurd rfl e⟩
