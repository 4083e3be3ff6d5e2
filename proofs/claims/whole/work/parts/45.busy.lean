/-! ===== busiest, unseen: both sides ===== -/
noncomputable def svN (P : Nat → Nat → Int) (a b : Nat) : Nat := if a = b then 0 else NSn (P a) (P b)
theorem svN_le (P : Nat → Nat → Int) (a b : Nat) : svN P a b ≤ 101 := by
  unfold svN
  split
  · omega
  · exact NSn_le _ _
theorem c_count {N n a b : Nat} {P : Nat → Nat → Int} {T : TxS} {H : HiS} {I : ImS} {E : SeS} {M : zMem} {Q : Int32 → zMem → Prop} (hN : 300 ≤ N) (h : RC n P T H I E M) (ha : a < n) (hb : b < n) (hQ : ∀ M', fz 0 46 M M' → RC n P T H I E M' → Q (iI (svN P a b : Int)) M') : f_X3_countSpots N (iI (a : Int)) (iI (b : Int)) M Q := by
  refine t_X3_countSpots hN h.1.1 ha hb h.1.2.2.1 h.1.2.2.2.1 h.1.2.2.2.2 (fun e => ?_) (fun e M' f1 c1 k1 => ?_)
  · have := hQ M fz.rf h
    unfold svN at this
    rw [if_pos e] at this
    exact this
  · have := hQ M' (fz_wide f1 (by omega) (by omega)) (RC_c h f1 c1 k1)
    unfold svN at this
    rw [if_neg e] at this
    exact this
theorem r_count {N n a b : Nat} {P : Nat → Nat → Int} {T : TxS} {H : HiS} {I : ImS} {E : SeS} {M : zMem} {Q : Int32 → zMem → Prop} (hN : 10000 ≤ N) (h : RR n P T H I E M) (ha : a < n) (hb : b < n) (hQ : ∀ M', fz 47 62 M M' → RR n P T H I E M' → Q (iI (svN P a b : Int)) M') : f_X8_spotsOf N (iI (a : Int)) (iI (b : Int)) M Q := by
  refine t_X8_spotsOf hN h.1 ha hb (fun e => ?_) (fun e M' f1 r1 => ?_)
  · have := hQ M fz.rf h
    unfold svN at this
    rw [if_pos e] at this
    exact this
  · have := hQ M' (fz_rSet f1) (RR_r h f1 r1)
    unfold svN at this
    rw [if_neg e] at this
    exact this
abbrev Bst : Type := Int × Int × Int
noncomputable def stB (P : Nat → Nat → Int) (B : Bst) (p q : Nat) : Bst := ifp (B.2.2 < (svN P p q : Int)) ((p : Int), (q : Int), (svN P p q : Int)) B
noncomputable def bqB (P : Nat → Nat → Int) (p : Nat) : Nat → Nat → Bst → Bst
  | _, 0, B => B
  | q, r + 1, B => bqB P p (q + 1) r (stB P B p q)
noncomputable def bpB (P : Nat → Nat → Int) (n : Nat) : Nat → Nat → Bst → Bst
  | _, 0, B => B
  | p, r + 1, B => bpB P n (p + 1) r (bqB P p (p + 1) (n - (p + 1)) B)
def okB (B : Bst) : Prop := B.2.2 = -9 ∨ (0 ≤ B.2.2 ∧ B.2.2 ≤ 101)
theorem okB_st {P : Nat → Nat → Int} {B : Bst} {p q : Nat} (h : okB B) : okB (stB P B p q) := by
  have := svN_le P p q
  unfold stB
  rcases Classical.em (B.2.2 < (svN P p q : Int)) with w | w
  · rw [ifp_t w]; exact Or.inr ⟨by dsimp only; omega, by dsimp only; omega⟩
  · rw [ifp_f w]; exact h
theorem okB_bq {P : Nat → Nat → Int} {p : Nat} : ∀ (r q : Nat) (B : Bst), okB B → okB (bqB P p q r B) := by
  intro r
  induction r with
  | zero => intro q B h; exact h
  | succ r ih => intro q B h; exact ih (q + 1) _ (okB_st h)
noncomputable def selB (z : Int) (B : Bst) : Int := ifp (z = 0) B.1 (ifp (z = 1) B.2.1 B.2.2)
noncomputable def vBusiest (n : Nat) (P : Nat → Nat → Int) (z : Int) : Int := ifp (0 ≤ z ∧ z < 3) (selB z (bpB P n 0 n (-9, -9, -9))) (-1)
theorem l_X7_busiest_39 {N n p : Nat} {P : Nat → Nat → Int} {T : TxS} {H : HiS} {I : ImS} {E : SeS} {z : Int} {k24 : Int32 → Int32 → Int32 → Int32 → zMem → Prop} {M0 : zMem} {Q : Int32 → zMem → Prop} (hN : 300 ≤ N) (hp : p < n) : ∀ (r f q : Nat) (B : Bst) (M : zMem), r + q = n → r + 1 ≤ f → okB B → fz 0 46 M0 M → RC n P T H I E M → (∀ M', fz 0 46 M0 M' → RC n P T H I E M' → k24 (iI (bqB P p q r B).1) (iI (bqB P p q r B).2.1) (iI (bqB P p q r B).2.2) (iI ((p : Int) + 1)) M') → f_X7_busiest_l39 N k24 (iI z) (iI (p : Int)) Q f (iI B.1) (iI B.2.1) (iI B.2.2) (iI (q : Int)) M := by
  intro r
  induction r with
  | zero =>
    intro f q B M hq hf hB hf0 hR hK
    obtain ⟨f, rfl⟩ : ∃ g, f = g + 1 := ⟨f - 1, by omega⟩
    show f_X7_busiest_b39 N k24 (f_X7_busiest_l39 N k24 (iI z) (iI (p : Int)) Q f) (iI z) (iI (p : Int)) (iI B.1) (iI B.2.1) (iI B.2.2) (iI (q : Int)) M Q
    unfold f_X7_busiest_b39
    have hn := hR.1.1
    rw [hR.1.2.1]
    refine ⟨fun _ v e => ?_, fun cc => ?_⟩
    · simp (disch := omega) only [iI_m1, iI_0, iI_1, iI_2, iI_3, iI_4, iI_5, iI_6, iI_7, iI_8, iI_9, iI_10, iI_11, iI_12, iI_13, iI_16, iI_18, iI_20, iI_24, iI_31, iI_32, iI_33, iI_36, iI_48, iI_57, iI_59, iI_63, iI_64, iI_97, iI_100, iI_101, iI_130, iI_255, iI_256, iI_512, iI_1000, iI_1009, iI_2000, iI_2048, iI_32768, iI_2147483647, iI_add, iI_sub, iI_mul, iI_neg, iI_lt, iI_le, iI_eq, iI_in] at e
      subst e
      exact hK M hf0 hR
    · simp (disch := omega) only [iI_m1, iI_0, iI_1, iI_2, iI_3, iI_4, iI_5, iI_6, iI_7, iI_8, iI_9, iI_10, iI_11, iI_12, iI_13, iI_16, iI_18, iI_20, iI_24, iI_31, iI_32, iI_33, iI_36, iI_48, iI_57, iI_59, iI_63, iI_64, iI_97, iI_100, iI_101, iI_130, iI_255, iI_256, iI_512, iI_1000, iI_1009, iI_2000, iI_2048, iI_32768, iI_2147483647, iI_add, iI_sub, iI_mul, iI_neg, iI_lt, iI_le, iI_eq, iI_in] at cc
      omega
  | succ r ih =>
    intro f q B M hq hf hB hf0 hR hK
    obtain ⟨f, rfl⟩ : ∃ g, f = g + 1 := ⟨f - 1, by omega⟩
    show f_X7_busiest_b39 N k24 (f_X7_busiest_l39 N k24 (iI z) (iI (p : Int)) Q f) (iI z) (iI (p : Int)) (iI B.1) (iI B.2.1) (iI B.2.2) (iI (q : Int)) M Q
    unfold f_X7_busiest_b39
    have hn := hR.1.1
    have hs := svN_le P p q
    rw [hR.1.2.1]
    refine ⟨fun cc => ?_, fun _ => ?_⟩
    · simp (disch := omega) only [iI_m1, iI_0, iI_1, iI_2, iI_3, iI_4, iI_5, iI_6, iI_7, iI_8, iI_9, iI_10, iI_11, iI_12, iI_13, iI_16, iI_18, iI_20, iI_24, iI_31, iI_32, iI_33, iI_36, iI_48, iI_57, iI_59, iI_63, iI_64, iI_97, iI_100, iI_101, iI_130, iI_255, iI_256, iI_512, iI_1000, iI_1009, iI_2000, iI_2048, iI_32768, iI_2147483647, iI_add, iI_sub, iI_mul, iI_neg, iI_lt, iI_le, iI_eq, iI_in] at cc
      omega
    refine c_count hN hR hp (show q < n by omega) (fun M' f1 r1 => ?_)
    have hK' : ∀ B', B' = stB P B p q → f_X7_busiest_b82 N k24 (f_X7_busiest_l39 N k24 (iI z) (iI (p : Int)) Q f) (iI z) (iI B'.1) (iI B'.2.1) (iI B'.2.2) (iI (p : Int)) (iI (q : Int)) M' Q := by
      intro B' hB'
      unfold f_X7_busiest_b82
      intro v e
      simp (disch := omega) only [iI_m1, iI_0, iI_1, iI_2, iI_3, iI_4, iI_5, iI_6, iI_7, iI_8, iI_9, iI_10, iI_11, iI_12, iI_13, iI_16, iI_18, iI_20, iI_24, iI_31, iI_32, iI_33, iI_36, iI_48, iI_57, iI_59, iI_63, iI_64, iI_97, iI_100, iI_101, iI_130, iI_255, iI_256, iI_512, iI_1000, iI_1009, iI_2000, iI_2048, iI_32768, iI_2147483647, iI_add, iI_sub, iI_mul, iI_neg, iI_lt, iI_le, iI_eq, iI_in] at e
      subst e
      subst hB'
      exact ih f (q + 1) (stB P B p q) M' (by omega) (by omega) (okB_st hB) (hf0.tr f1) r1 hK
    have hb2 : -9 ≤ B.2.2 ∧ B.2.2 ≤ 101 := by unfold okB at hB; omega
    rw [iI_le (by omega) (by omega) (by omega) (by omega)]
    refine ⟨fun c => ?_, fun c => ?_⟩
    · exact hK' B (by unfold stB; rw [ifp_f (by omega)])
    · exact hK' ((p : Int), (q : Int), (svN P p q : Int)) (by unfold stB; rw [ifp_t (by omega)])
theorem c_busiest {N n : Nat} {P : Nat → Nat → Int} {T : TxS} {H : HiS} {I : ImS} {E : SeS} {z : Int} {M : zMem} {Q : Int32 → zMem → Prop} (hN : 300 ≤ N) (h : RC n P T H I E M) (h1 : -2147483648 ≤ z ∧ z < 2147483648) (hQ : ∀ M', fz 0 46 M M' → RC n P T H I E M' → Q (iI (vBusiest n P z)) M') : f_X7_busiest N (iI z) M Q := by
  unfold f_X7_busiest
  unfold vBusiest at hQ
  have hn := h.1.1
  refine ⟨fun c => ?_, fun c => ⟨fun c2 => ?_, fun c2 => ?_⟩⟩
  · simp (disch := omega) only [iI_m1, iI_0, iI_1, iI_2, iI_3, iI_4, iI_5, iI_6, iI_7, iI_8, iI_9, iI_10, iI_11, iI_12, iI_13, iI_16, iI_18, iI_20, iI_24, iI_31, iI_32, iI_33, iI_36, iI_48, iI_57, iI_59, iI_63, iI_64, iI_97, iI_100, iI_101, iI_130, iI_255, iI_256, iI_512, iI_1000, iI_1009, iI_2000, iI_2048, iI_32768, iI_2147483647, iI_add, iI_sub, iI_mul, iI_neg, iI_lt, iI_le, iI_eq, iI_in] at c
    rw [ifp_f (by omega)] at hQ
    exact hQ M fz.rf h
  · simp (disch := omega) only [iI_m1, iI_0, iI_1, iI_2, iI_3, iI_4, iI_5, iI_6, iI_7, iI_8, iI_9, iI_10, iI_11, iI_12, iI_13, iI_16, iI_18, iI_20, iI_24, iI_31, iI_32, iI_33, iI_36, iI_48, iI_57, iI_59, iI_63, iI_64, iI_97, iI_100, iI_101, iI_130, iI_255, iI_256, iI_512, iI_1000, iI_1009, iI_2000, iI_2048, iI_32768, iI_2147483647, iI_add, iI_sub, iI_mul, iI_neg, iI_lt, iI_le, iI_eq, iI_in] at c c2
    rw [ifp_t (by omega)] at hQ
    have lp : ∀ (r f p : Nat) (B : Bst) (M' : zMem), r + p = n → r + 1 ≤ f → okB B → fz 0 46 M M' → RC n P T H I E M' → bpB P n p r B = bpB P n 0 n (-9, -9, -9) → f_X7_busiest_l24 N (iI z) Q f (iI B.1) (iI B.2.1) (iI B.2.2) (iI (p : Int)) M' := by
      intro r
      induction r with
      | zero =>
        intro f p B M' hp hf hB f1 r1 hE
        obtain ⟨f, rfl⟩ : ∃ g, f = g + 1 := ⟨f - 1, by omega⟩
        show f_X7_busiest_b24 N (f_X7_busiest_l24 N (iI z) Q f) (iI z) (iI B.1) (iI B.2.1) (iI B.2.2) (iI (p : Int)) M' Q
        unfold f_X7_busiest_b24
        rw [r1.1.2.1]
        have hQ' := hQ M' f1 r1
        rw [← hE] at hQ'
        have e0 : bpB P n p 0 B = B := rfl
        rw [e0] at hQ'
        unfold selB at hQ'
        refine ⟨fun _ => ⟨fun w => ?_, fun w => ?_, fun w w2 => ?_⟩, fun cc => ?_⟩
        · simp (disch := omega) only [iI_m1, iI_0, iI_1, iI_2, iI_3, iI_4, iI_5, iI_6, iI_7, iI_8, iI_9, iI_10, iI_11, iI_12, iI_13, iI_16, iI_18, iI_20, iI_24, iI_31, iI_32, iI_33, iI_36, iI_48, iI_57, iI_59, iI_63, iI_64, iI_97, iI_100, iI_101, iI_130, iI_255, iI_256, iI_512, iI_1000, iI_1009, iI_2000, iI_2048, iI_32768, iI_2147483647, iI_add, iI_sub, iI_mul, iI_neg, iI_lt, iI_le, iI_eq, iI_in] at w
          rw [ifp_t w] at hQ'
          exact hQ'
        · simp (disch := omega) only [iI_m1, iI_0, iI_1, iI_2, iI_3, iI_4, iI_5, iI_6, iI_7, iI_8, iI_9, iI_10, iI_11, iI_12, iI_13, iI_16, iI_18, iI_20, iI_24, iI_31, iI_32, iI_33, iI_36, iI_48, iI_57, iI_59, iI_63, iI_64, iI_97, iI_100, iI_101, iI_130, iI_255, iI_256, iI_512, iI_1000, iI_1009, iI_2000, iI_2048, iI_32768, iI_2147483647, iI_add, iI_sub, iI_mul, iI_neg, iI_lt, iI_le, iI_eq, iI_in] at w
          rw [ifp_f (by omega), ifp_t w] at hQ'
          exact hQ'
        · simp (disch := omega) only [iI_m1, iI_0, iI_1, iI_2, iI_3, iI_4, iI_5, iI_6, iI_7, iI_8, iI_9, iI_10, iI_11, iI_12, iI_13, iI_16, iI_18, iI_20, iI_24, iI_31, iI_32, iI_33, iI_36, iI_48, iI_57, iI_59, iI_63, iI_64, iI_97, iI_100, iI_101, iI_130, iI_255, iI_256, iI_512, iI_1000, iI_1009, iI_2000, iI_2048, iI_32768, iI_2147483647, iI_add, iI_sub, iI_mul, iI_neg, iI_lt, iI_le, iI_eq, iI_in] at w w2
          rw [ifp_f (by omega), ifp_f (by omega)] at hQ'
          exact hQ'
        · simp (disch := omega) only [iI_m1, iI_0, iI_1, iI_2, iI_3, iI_4, iI_5, iI_6, iI_7, iI_8, iI_9, iI_10, iI_11, iI_12, iI_13, iI_16, iI_18, iI_20, iI_24, iI_31, iI_32, iI_33, iI_36, iI_48, iI_57, iI_59, iI_63, iI_64, iI_97, iI_100, iI_101, iI_130, iI_255, iI_256, iI_512, iI_1000, iI_1009, iI_2000, iI_2048, iI_32768, iI_2147483647, iI_add, iI_sub, iI_mul, iI_neg, iI_lt, iI_le, iI_eq, iI_in] at cc
          omega
      | succ r ih =>
        intro f p B M' hp hf hB f1 r1 hE
        obtain ⟨f, rfl⟩ : ∃ g, f = g + 1 := ⟨f - 1, by omega⟩
        show f_X7_busiest_b24 N (f_X7_busiest_l24 N (iI z) Q f) (iI z) (iI B.1) (iI B.2.1) (iI B.2.2) (iI (p : Int)) M' Q
        unfold f_X7_busiest_b24
        rw [r1.1.2.1]
        refine ⟨fun cc => ?_, fun _ v e => ?_⟩
        · simp (disch := omega) only [iI_m1, iI_0, iI_1, iI_2, iI_3, iI_4, iI_5, iI_6, iI_7, iI_8, iI_9, iI_10, iI_11, iI_12, iI_13, iI_16, iI_18, iI_20, iI_24, iI_31, iI_32, iI_33, iI_36, iI_48, iI_57, iI_59, iI_63, iI_64, iI_97, iI_100, iI_101, iI_130, iI_255, iI_256, iI_512, iI_1000, iI_1009, iI_2000, iI_2048, iI_32768, iI_2147483647, iI_add, iI_sub, iI_mul, iI_neg, iI_lt, iI_le, iI_eq, iI_in] at cc
          omega
        · simp (disch := omega) only [iI_m1, iI_0, iI_1, iI_2, iI_3, iI_4, iI_5, iI_6, iI_7, iI_8, iI_9, iI_10, iI_11, iI_12, iI_13, iI_16, iI_18, iI_20, iI_24, iI_31, iI_32, iI_33, iI_36, iI_48, iI_57, iI_59, iI_63, iI_64, iI_97, iI_100, iI_101, iI_130, iI_255, iI_256, iI_512, iI_1000, iI_1009, iI_2000, iI_2048, iI_32768, iI_2147483647, iI_add, iI_sub, iI_mul, iI_neg, iI_lt, iI_le, iI_eq, iI_in] at e
          subst e
          refine l_X7_busiest_39 (M0 := M) hN (show p < n by omega) (n - (p + 1)) N (p + 1) B M' (by omega) (by omega) hB f1 r1 (fun M2 f2 r2 => ?_)
          exact ih f (p + 1) _ M2 (by omega) (by omega) (okB_bq _ _ _ hB) f2 r2 hE
    exact lp n N 0 (-9, -9, -9) M (by omega) (by omega) (Or.inl rfl) fz.rf h rfl
  · simp (disch := omega) only [iI_m1, iI_0, iI_1, iI_2, iI_3, iI_4, iI_5, iI_6, iI_7, iI_8, iI_9, iI_10, iI_11, iI_12, iI_13, iI_16, iI_18, iI_20, iI_24, iI_31, iI_32, iI_33, iI_36, iI_48, iI_57, iI_59, iI_63, iI_64, iI_97, iI_100, iI_101, iI_130, iI_255, iI_256, iI_512, iI_1000, iI_1009, iI_2000, iI_2048, iI_32768, iI_2147483647, iI_add, iI_sub, iI_mul, iI_neg, iI_lt, iI_le, iI_eq, iI_in] at c2
    rw [ifp_f (by omega)] at hQ
    exact hQ M fz.rf h
theorem l_X8_busiest_39 {N n p : Nat} {P : Nat → Nat → Int} {T : TxS} {H : HiS} {I : ImS} {E : SeS} {z : Int} {k24 : Int32 → Int32 → Int32 → zMem → Prop} {M0 : zMem} {Q : Int32 → zMem → Prop} (hN : 10000 ≤ N) (hz : 0 ≤ z ∧ z < 3) (hp : p < n) : ∀ (r f q : Nat) (B : Bst) (M : zMem), r + q = n → r + 1 ≤ f → okB B → fz 47 62 M0 M → RR n P T H I E M → (∀ M', fz 47 62 M0 M' → RR n P T H I E M' → k24 (iI (max (bqB P p q r B).2.2 (-1))) (iI (selB z (bqB P p q r B))) (iI ((p : Int) + 1)) M') → f_X8_busiest_l39 N k24 (iI z) (iI (p : Int)) Q f (iI (max B.2.2 (-1))) (iI (selB z B)) (iI (q : Int)) M := by
  intro r
  induction r with
  | zero =>
    intro f q B M hq hf hB hf0 hR hK
    obtain ⟨f, rfl⟩ : ∃ g, f = g + 1 := ⟨f - 1, by omega⟩
    show f_X8_busiest_b39 N k24 (f_X8_busiest_l39 N k24 (iI z) (iI (p : Int)) Q f) (iI z) (iI (p : Int)) (iI (max B.2.2 (-1))) (iI (selB z B)) (iI (q : Int)) M Q
    unfold f_X8_busiest_b39
    have hn := RR_n hR.1
    rw [hn.2]
    have hn1 := hn.1
    refine ⟨fun _ v e => ?_, fun cc => ?_⟩
    · simp (disch := omega) only [iI_m1, iI_0, iI_1, iI_2, iI_3, iI_4, iI_5, iI_6, iI_7, iI_8, iI_9, iI_10, iI_11, iI_12, iI_13, iI_16, iI_18, iI_20, iI_24, iI_31, iI_32, iI_33, iI_36, iI_48, iI_57, iI_59, iI_63, iI_64, iI_97, iI_100, iI_101, iI_130, iI_255, iI_256, iI_512, iI_1000, iI_1009, iI_2000, iI_2048, iI_32768, iI_2147483647, iI_add, iI_sub, iI_mul, iI_neg, iI_lt, iI_le, iI_eq, iI_in] at e
      subst e
      exact hK M hf0 hR
    · simp (disch := omega) only [iI_m1, iI_0, iI_1, iI_2, iI_3, iI_4, iI_5, iI_6, iI_7, iI_8, iI_9, iI_10, iI_11, iI_12, iI_13, iI_16, iI_18, iI_20, iI_24, iI_31, iI_32, iI_33, iI_36, iI_48, iI_57, iI_59, iI_63, iI_64, iI_97, iI_100, iI_101, iI_130, iI_255, iI_256, iI_512, iI_1000, iI_1009, iI_2000, iI_2048, iI_32768, iI_2147483647, iI_add, iI_sub, iI_mul, iI_neg, iI_lt, iI_le, iI_eq, iI_in] at cc
      omega
  | succ r ih =>
    intro f q B M hq hf hB hf0 hR hK
    obtain ⟨f, rfl⟩ : ∃ g, f = g + 1 := ⟨f - 1, by omega⟩
    show f_X8_busiest_b39 N k24 (f_X8_busiest_l39 N k24 (iI z) (iI (p : Int)) Q f) (iI z) (iI (p : Int)) (iI (max B.2.2 (-1))) (iI (selB z B)) (iI (q : Int)) M Q
    unfold f_X8_busiest_b39
    have hn := RR_n hR.1
    have hn1 := hn.1
    have hs := svN_le P p q
    have hb2 : B.2.2 = -9 ∨ (0 ≤ B.2.2 ∧ B.2.2 ≤ 101) := hB
    rw [hn.2]
    refine ⟨fun cc => ?_, fun _ => ?_⟩
    · simp (disch := omega) only [iI_m1, iI_0, iI_1, iI_2, iI_3, iI_4, iI_5, iI_6, iI_7, iI_8, iI_9, iI_10, iI_11, iI_12, iI_13, iI_16, iI_18, iI_20, iI_24, iI_31, iI_32, iI_33, iI_36, iI_48, iI_57, iI_59, iI_63, iI_64, iI_97, iI_100, iI_101, iI_130, iI_255, iI_256, iI_512, iI_1000, iI_1009, iI_2000, iI_2048, iI_32768, iI_2147483647, iI_add, iI_sub, iI_mul, iI_neg, iI_lt, iI_le, iI_eq, iI_in] at cc
      omega
    refine r_count hN hR hp (show q < n by omega) (fun M' f1 r1 => ?_)
    have b89 : ∀ s : Int, s = selB z (stB P B p q) → f_X8_busiest_b89 N k24 (f_X8_busiest_l39 N k24 (iI z) (iI (p : Int)) Q f) (iI z) (iI (max B.2.2 (-1))) (iI (p : Int)) (iI (q : Int)) (iI (svN P p q : Int)) (iI s) M' Q := by
      intro s hs2
      unfold f_X8_busiest_b89
      have b102 : ∀ x : Int, x = max (stB P B p q).2.2 (-1) → f_X8_busiest_b102 N k24 (f_X8_busiest_l39 N k24 (iI z) (iI (p : Int)) Q f) (iI z) (iI s) (iI (p : Int)) (iI (q : Int)) (iI x) M' Q := by
        intro x hx
        unfold f_X8_busiest_b102
        intro v e
        simp (disch := omega) only [iI_m1, iI_0, iI_1, iI_2, iI_3, iI_4, iI_5, iI_6, iI_7, iI_8, iI_9, iI_10, iI_11, iI_12, iI_13, iI_16, iI_18, iI_20, iI_24, iI_31, iI_32, iI_33, iI_36, iI_48, iI_57, iI_59, iI_63, iI_64, iI_97, iI_100, iI_101, iI_130, iI_255, iI_256, iI_512, iI_1000, iI_1009, iI_2000, iI_2048, iI_32768, iI_2147483647, iI_add, iI_sub, iI_mul, iI_neg, iI_lt, iI_le, iI_eq, iI_in] at e
        subst e
        subst hx
        subst hs2
        exact ih f (q + 1) (stB P B p q) M' (by omega) (by omega) (okB_st hB) (hf0.tr f1) r1 hK
      rw [iI_le (by omega) (by omega) (by omega) (by omega)]
      refine ⟨fun c => b102 _ ?_, fun c => b102 _ ?_⟩
      · unfold stB
        rw [ifp_f (by omega)]
      · unfold stB
        rw [ifp_t (by omega)]
        dsimp only
        omega
    rw [iI_le (by omega) (by omega) (by omega) (by omega)]
    refine ⟨fun c => ?_, fun c => ⟨fun w => ⟨fun w2 => ?_, fun w2 => ?_⟩, fun w => ?_⟩⟩
    · exact b89 _ (by unfold stB; rw [ifp_f (by omega)])
    · simp (disch := omega) only [iI_m1, iI_0, iI_1, iI_2, iI_3, iI_4, iI_5, iI_6, iI_7, iI_8, iI_9, iI_10, iI_11, iI_12, iI_13, iI_16, iI_18, iI_20, iI_24, iI_31, iI_32, iI_33, iI_36, iI_48, iI_57, iI_59, iI_63, iI_64, iI_97, iI_100, iI_101, iI_130, iI_255, iI_256, iI_512, iI_1000, iI_1009, iI_2000, iI_2048, iI_32768, iI_2147483647, iI_add, iI_sub, iI_mul, iI_neg, iI_lt, iI_le, iI_eq, iI_in] at w w2
      exact b89 _ (by rw [show stB P B p q = ((p : Int), (q : Int), (svN P p q : Int)) from ifp_t (by omega)]; unfold selB; rw [ifp_f (by omega), ifp_f (by omega)])
    · simp (disch := omega) only [iI_m1, iI_0, iI_1, iI_2, iI_3, iI_4, iI_5, iI_6, iI_7, iI_8, iI_9, iI_10, iI_11, iI_12, iI_13, iI_16, iI_18, iI_20, iI_24, iI_31, iI_32, iI_33, iI_36, iI_48, iI_57, iI_59, iI_63, iI_64, iI_97, iI_100, iI_101, iI_130, iI_255, iI_256, iI_512, iI_1000, iI_1009, iI_2000, iI_2048, iI_32768, iI_2147483647, iI_add, iI_sub, iI_mul, iI_neg, iI_lt, iI_le, iI_eq, iI_in] at w w2
      exact b89 _ (by rw [show stB P B p q = ((p : Int), (q : Int), (svN P p q : Int)) from ifp_t (by omega)]; unfold selB; rw [ifp_f (by omega), ifp_t (by omega)])
    · simp (disch := omega) only [iI_m1, iI_0, iI_1, iI_2, iI_3, iI_4, iI_5, iI_6, iI_7, iI_8, iI_9, iI_10, iI_11, iI_12, iI_13, iI_16, iI_18, iI_20, iI_24, iI_31, iI_32, iI_33, iI_36, iI_48, iI_57, iI_59, iI_63, iI_64, iI_97, iI_100, iI_101, iI_130, iI_255, iI_256, iI_512, iI_1000, iI_1009, iI_2000, iI_2048, iI_32768, iI_2147483647, iI_add, iI_sub, iI_mul, iI_neg, iI_lt, iI_le, iI_eq, iI_in] at w
      exact b89 _ (by rw [show stB P B p q = ((p : Int), (q : Int), (svN P p q : Int)) from ifp_t (by omega)]; unfold selB; rw [ifp_t (by omega)])
theorem r_busiest {N n : Nat} {P : Nat → Nat → Int} {T : TxS} {H : HiS} {I : ImS} {E : SeS} {z : Int} {M : zMem} {Q : Int32 → zMem → Prop} (hN : 10000 ≤ N) (h : RR n P T H I E M) (h1 : -2147483648 ≤ z ∧ z < 2147483648) (hQ : ∀ M', fz 47 62 M M' → RR n P T H I E M' → Q (iI (vBusiest n P z)) M') : f_X8_busiest N (iI z) M Q := by
  unfold f_X8_busiest
  unfold vBusiest at hQ
  intro M1 e
  have f1 : fz 47 62 M M1 := by rw [e]; exact fz_0
  have r1 : RR n P T H I E M1 := by rw [e]; exact RR_0 h
  have hn := RR_n r1.1
  have hn1 := hn.1
  refine t_X8_upTo (h := 2) h1.1 h1.2 (by decide) (fun u e1 l1 => ?_) (fun w => ?_)
  · rw [ifp_t (by omega)] at hQ
    refine ⟨fun _ => ?_, fun e => absurd e (by decide)⟩
    have lp : ∀ (r f p : Nat) (B : Bst) (M' : zMem), r + p = n → r + 1 ≤ f → okB B → fz 47 62 M M' → RR n P T H I E M' → bpB P n p r B = bpB P n 0 n (-9, -9, -9) → f_X8_busiest_l24 N (iI z) Q f (iI (max B.2.2 (-1))) (iI (selB z B)) (iI (p : Int)) M' := by
      intro r
      induction r with
      | zero =>
        intro f p B M' hp hf hB f2 r2 hE
        obtain ⟨f, rfl⟩ : ∃ g, f = g + 1 := ⟨f - 1, by omega⟩
        show f_X8_busiest_b24 N (f_X8_busiest_l24 N (iI z) Q f) (iI z) (iI (max B.2.2 (-1))) (iI (selB z B)) (iI (p : Int)) M' Q
        unfold f_X8_busiest_b24
        rw [(RR_n r2.1).2]
        have hQ' := hQ M' f2 r2
        rw [← hE] at hQ'
        have e0 : bpB P n p 0 B = B := rfl
        rw [e0] at hQ'
        refine ⟨fun _ => hQ', fun cc => ?_⟩
        simp (disch := omega) only [iI_m1, iI_0, iI_1, iI_2, iI_3, iI_4, iI_5, iI_6, iI_7, iI_8, iI_9, iI_10, iI_11, iI_12, iI_13, iI_16, iI_18, iI_20, iI_24, iI_31, iI_32, iI_33, iI_36, iI_48, iI_57, iI_59, iI_63, iI_64, iI_97, iI_100, iI_101, iI_130, iI_255, iI_256, iI_512, iI_1000, iI_1009, iI_2000, iI_2048, iI_32768, iI_2147483647, iI_add, iI_sub, iI_mul, iI_neg, iI_lt, iI_le, iI_eq, iI_in] at cc
        omega
      | succ r ih =>
        intro f p B M' hp hf hB f2 r2 hE
        obtain ⟨f, rfl⟩ : ∃ g, f = g + 1 := ⟨f - 1, by omega⟩
        show f_X8_busiest_b24 N (f_X8_busiest_l24 N (iI z) Q f) (iI z) (iI (max B.2.2 (-1))) (iI (selB z B)) (iI (p : Int)) M' Q
        unfold f_X8_busiest_b24
        rw [(RR_n r2.1).2]
        refine ⟨fun cc => ?_, fun _ v e => ?_⟩
        · simp (disch := omega) only [iI_m1, iI_0, iI_1, iI_2, iI_3, iI_4, iI_5, iI_6, iI_7, iI_8, iI_9, iI_10, iI_11, iI_12, iI_13, iI_16, iI_18, iI_20, iI_24, iI_31, iI_32, iI_33, iI_36, iI_48, iI_57, iI_59, iI_63, iI_64, iI_97, iI_100, iI_101, iI_130, iI_255, iI_256, iI_512, iI_1000, iI_1009, iI_2000, iI_2048, iI_32768, iI_2147483647, iI_add, iI_sub, iI_mul, iI_neg, iI_lt, iI_le, iI_eq, iI_in] at cc
          omega
        · simp (disch := omega) only [iI_m1, iI_0, iI_1, iI_2, iI_3, iI_4, iI_5, iI_6, iI_7, iI_8, iI_9, iI_10, iI_11, iI_12, iI_13, iI_16, iI_18, iI_20, iI_24, iI_31, iI_32, iI_33, iI_36, iI_48, iI_57, iI_59, iI_63, iI_64, iI_97, iI_100, iI_101, iI_130, iI_255, iI_256, iI_512, iI_1000, iI_1009, iI_2000, iI_2048, iI_32768, iI_2147483647, iI_add, iI_sub, iI_mul, iI_neg, iI_lt, iI_le, iI_eq, iI_in] at e
          subst e
          refine l_X8_busiest_39 (M0 := M) hN (by omega) (show p < n by omega) (n - (p + 1)) N (p + 1) B M' (by omega) (by omega) hB f2 r2 (fun M3 f3 r3 => ?_)
          exact ih f (p + 1) _ M3 (by omega) (by omega) (okB_bq _ _ _ hB) f3 r3 hE
    have := lp n N 0 (-9, -9, -9) M1 (by omega) (by omega) (Or.inl rfl) f1 r1 rfl
    have es : selB z (-9, -9, -9) = -9 := by
      unfold selB
      rcases Classical.em (z = 0) with w | w
      · rw [ifp_t w]
      · rw [ifp_f w]
        rcases Classical.em (z = 1) with w2 | w2
        · rw [ifp_t w2]
        · rw [ifp_f w2]
    rw [es] at this
    exact this
  · rw [ifp_f (by omega)] at hQ
    exact ⟨fun e => absurd rfl e, fun _ => hQ M1 f1 r1⟩
/-! unseen -/
def ftU (P : Nat → Nat → Int) (E : SeS) (a k : Nat) : Prop := ∀ k', k' < k → svN P a (E.2.1 k') = E.2.2 k'
noncomputable def ubU (P : Nat → Nat → Int) (E : SeS) : Nat → Int32
  | 0 => 0
  | a + 1 => ifp (ftU P E a E.1) (ubU P E a ||| ((1 : Int32) <<< (iI (a : Int) &&& 31))) (ubU P E a)
theorem or0 (x : Int32) : x ||| 0 = x := by
  apply Int32.toBitVec_inj.mp
  simp
theorem c_unseen {N n : Nat} {P : Nat → Nat → Int} {T : TxS} {H : HiS} {I : ImS} {E : SeS} {M : zMem} {Q : Int32 → zMem → Prop} (hN : 300 ≤ N) (h : RC n P T H I E M) (hQ : ∀ M', fz 0 46 M M' → RC n P T H I E M' → Q (ubU P E n) M') : f_X7_unseen N M Q := by
  unfold f_X7_unseen
  have hn := h.1.1
  have hE := h.2.2.2.2.1
  have lp : ∀ (r f a : Nat) (M' : zMem), r + a = n → r + 1 ≤ f → fz 0 46 M M' → RC n P T H I E M' → f_X7_unseen_l4 N Q f (ubU P E a) (iI (a : Int)) M' := by
    intro r
    induction r with
    | zero =>
      intro f a M' ha hf f1 r1
      obtain ⟨f, rfl⟩ : ∃ g, f = g + 1 := ⟨f - 1, by omega⟩
      show f_X7_unseen_b4 N (f_X7_unseen_l4 N Q f) (ubU P E a) (iI (a : Int)) M' Q
      unfold f_X7_unseen_b4
      rw [r1.1.2.1]
      obtain rfl : a = n := by omega
      refine ⟨fun _ => hQ M' f1 r1, fun cc => ?_⟩
      simp (disch := omega) only [iI_m1, iI_0, iI_1, iI_2, iI_3, iI_4, iI_5, iI_6, iI_7, iI_8, iI_9, iI_10, iI_11, iI_12, iI_13, iI_16, iI_18, iI_20, iI_24, iI_31, iI_32, iI_33, iI_36, iI_48, iI_57, iI_59, iI_63, iI_64, iI_97, iI_100, iI_101, iI_130, iI_255, iI_256, iI_512, iI_1000, iI_1009, iI_2000, iI_2048, iI_32768, iI_2147483647, iI_add, iI_sub, iI_mul, iI_neg, iI_lt, iI_le, iI_eq, iI_in] at cc
      omega
    | succ r ih =>
      intro f a M' ha hf f1 r1
      obtain ⟨f, rfl⟩ : ∃ g, f = g + 1 := ⟨f - 1, by omega⟩
      show f_X7_unseen_b4 N (f_X7_unseen_l4 N Q f) (ubU P E a) (iI (a : Int)) M' Q
      unfold f_X7_unseen_b4
      rw [r1.1.2.1]
      refine ⟨fun cc => ?_, fun _ => ?_⟩
      · simp (disch := omega) only [iI_m1, iI_0, iI_1, iI_2, iI_3, iI_4, iI_5, iI_6, iI_7, iI_8, iI_9, iI_10, iI_11, iI_12, iI_13, iI_16, iI_18, iI_20, iI_24, iI_31, iI_32, iI_33, iI_36, iI_48, iI_57, iI_59, iI_63, iI_64, iI_97, iI_100, iI_101, iI_130, iI_255, iI_256, iI_512, iI_1000, iI_1009, iI_2000, iI_2048, iI_32768, iI_2147483647, iI_add, iI_sub, iI_mul, iI_neg, iI_lt, iI_le, iI_eq, iI_in] at cc
        omega
      have b90 : ∀ (v : Int32) (M2 : zMem), v = ubU P E (a + 1) → fz 0 46 M M2 → RC n P T H I E M2 → f_X7_unseen_b90 N (f_X7_unseen_l4 N Q f) v (iI (a : Int)) M2 Q := by
        intro v M2 hv f2 r2
        unfold f_X7_unseen_b90
        intro v' e'
        simp (disch := omega) only [iI_m1, iI_0, iI_1, iI_2, iI_3, iI_4, iI_5, iI_6, iI_7, iI_8, iI_9, iI_10, iI_11, iI_12, iI_13, iI_16, iI_18, iI_20, iI_24, iI_31, iI_32, iI_33, iI_36, iI_48, iI_57, iI_59, iI_63, iI_64, iI_97, iI_100, iI_101, iI_130, iI_255, iI_256, iI_512, iI_1000, iI_1009, iI_2000, iI_2048, iI_32768, iI_2147483647, iI_add, iI_sub, iI_mul, iI_neg, iI_lt, iI_le, iI_eq, iI_in] at e'
        subst e'
        subst hv
        exact ih f (a + 1) M2 (by omega) (by omega) f2 r2
      have b80 : ∀ (x : Int32) (M2 : zMem), flg x (ftU P E a E.1) → fz 0 46 M M2 → RC n P T H I E M2 → f_X7_unseen_b80 N (f_X7_unseen_l4 N Q f) (ubU P E a) (iI (a : Int)) x M2 Q := by
        intro x M2 hx f2 r2
        unfold f_X7_unseen_b80
        rcases hx with ⟨hx, rfl⟩ | ⟨hx, rfl⟩
        · refine ⟨fun e => absurd e (by decide), fun _ v e => b90 v M2 ?_ f2 r2⟩
          rw [e, show ubU P E (a + 1) = ifp (ftU P E a E.1) (ubU P E a ||| ((1 : Int32) <<< (iI (a : Int) &&& 31))) (ubU P E a) from rfl, ifp_t hx]
        · refine ⟨fun _ => b90 _ M2 ?_ f2 r2, fun e => absurd rfl e⟩
          rw [show ubU P E (a + 1) = ifp (ftU P E a E.1) (ubU P E a ||| ((1 : Int32) <<< (iI (a : Int) &&& 31))) (ubU P E a) from rfl, ifp_f hx]
      have il : ∀ (s g k : Nat) (x : Int32) (M2 : zMem), s + k = E.1 → s + 1 ≤ g → flg x (ftU P E a k) → fz 0 46 M M2 → RC n P T H I E M2 → f_X7_unseen_l17 N (f_X7_unseen_l4 N Q f) (ubU P E a) (iI (a : Int)) Q g x (iI (k : Int)) M2 := by
        intro s
        induction s with
        | zero =>
          intro g k x M2 hk hg hx f2 r2
          obtain ⟨g, rfl⟩ : ∃ g', g = g' + 1 := ⟨g - 1, by omega⟩
          show f_X7_unseen_b17 N (f_X7_unseen_l4 N Q f) (f_X7_unseen_l17 N (f_X7_unseen_l4 N Q f) (ubU P E a) (iI (a : Int)) Q g) (ubU P E a) (iI (a : Int)) x (iI (k : Int)) M2 Q
          unfold f_X7_unseen_b17
          rw [r2.2.2.2.2.2.1]
          obtain rfl : k = E.1 := by omega
          refine ⟨fun _ => b80 x M2 hx f2 r2, fun cc => ?_⟩
          simp (disch := omega) only [iI_m1, iI_0, iI_1, iI_2, iI_3, iI_4, iI_5, iI_6, iI_7, iI_8, iI_9, iI_10, iI_11, iI_12, iI_13, iI_16, iI_18, iI_20, iI_24, iI_31, iI_32, iI_33, iI_36, iI_48, iI_57, iI_59, iI_63, iI_64, iI_97, iI_100, iI_101, iI_130, iI_255, iI_256, iI_512, iI_1000, iI_1009, iI_2000, iI_2048, iI_32768, iI_2147483647, iI_add, iI_sub, iI_mul, iI_neg, iI_lt, iI_le, iI_eq, iI_in] at cc
          omega
        | succ s ihs =>
          intro g k x M2 hk hg hx f2 r2
          obtain ⟨g, rfl⟩ : ∃ g', g = g' + 1 := ⟨g - 1, by omega⟩
          show f_X7_unseen_b17 N (f_X7_unseen_l4 N Q f) (f_X7_unseen_l17 N (f_X7_unseen_l4 N Q f) (ubU P E a) (iI (a : Int)) Q g) (ubU P E a) (iI (a : Int)) x (iI (k : Int)) M2 Q
          unfold f_X7_unseen_b17
          rw [r2.2.2.2.2.2.1]
          obtain ⟨s1, s2, s3, s4⟩ := r2.2.2.2.2.2.2 k (by omega)
          have vk : vp_in (iI (k : Int)) 6 := iI_in0 (by omega) (by omega) (by decide)
          refine ⟨fun cc => ?_, fun _ => ⟨fun w => ?_, fun w => ⟨vk, ?_⟩⟩⟩
          · simp (disch := omega) only [iI_m1, iI_0, iI_1, iI_2, iI_3, iI_4, iI_5, iI_6, iI_7, iI_8, iI_9, iI_10, iI_11, iI_12, iI_13, iI_16, iI_18, iI_20, iI_24, iI_31, iI_32, iI_33, iI_36, iI_48, iI_57, iI_59, iI_63, iI_64, iI_97, iI_100, iI_101, iI_130, iI_255, iI_256, iI_512, iI_1000, iI_1009, iI_2000, iI_2048, iI_32768, iI_2147483647, iI_add, iI_sub, iI_mul, iI_neg, iI_lt, iI_le, iI_eq, iI_in] at cc
            omega
          · rcases hx with ⟨hx, rfl⟩ | ⟨hx, rfl⟩
            · exact absurd w (by decide)
            · exact b80 _ M2 (Or.inr ⟨fun hh => hx (fun k' hk' => hh k' (by omega)), rfl⟩) f2 r2
          · rcases hx with ⟨hx, rfl⟩ | ⟨hx, rfl⟩
            · rw [zrd_iI (by omega) (by omega), toN, s3]
              refine c_count hN r2 (show a < n by omega) s1 (fun M3 f3 r3 => ⟨vk, ?_⟩)
              obtain ⟨t1, t2, t3, t4⟩ := r3.2.2.2.2.2.2 k (by omega)
              rw [zrd_iI (by omega) (by omega), toN, t4]
              have hs := svN_le P a (E.2.1 k)
              rw [iI_eq (by omega) (by omega) (by omega) (by omega)]
              have nxt : ∀ y : Int32, flg y (ftU P E a (k + 1)) → f_X7_unseen_b73 N (f_X7_unseen_l4 N Q f) (f_X7_unseen_l17 N (f_X7_unseen_l4 N Q f) (ubU P E a) (iI (a : Int)) Q g) (ubU P E a) (iI (a : Int)) (iI (k : Int)) y M3 Q := by
                intro y hy
                unfold f_X7_unseen_b73
                intro v e
                simp (disch := omega) only [iI_m1, iI_0, iI_1, iI_2, iI_3, iI_4, iI_5, iI_6, iI_7, iI_8, iI_9, iI_10, iI_11, iI_12, iI_13, iI_16, iI_18, iI_20, iI_24, iI_31, iI_32, iI_33, iI_36, iI_48, iI_57, iI_59, iI_63, iI_64, iI_97, iI_100, iI_101, iI_130, iI_255, iI_256, iI_512, iI_1000, iI_1009, iI_2000, iI_2048, iI_32768, iI_2147483647, iI_add, iI_sub, iI_mul, iI_neg, iI_lt, iI_le, iI_eq, iI_in] at e
                subst e
                exact ihs g (k + 1) y M3 (by omega) (by omega) hy (f2.tr f3) r3
              refine ⟨fun c => nxt 0 (Or.inr ⟨fun hh => c (by have := hh k (by omega); omega), rfl⟩), fun c => nxt 1 (Or.inl ⟨fun k' hk' => ?_, rfl⟩)⟩
              by_cases hkk : k' = k
              · subst hkk; omega
              · exact hx k' (by omega)
            · exact absurd rfl w
      exact il E.1 N 0 1 M' (by omega) (by omega) (Or.inl ⟨fun k' hk' => by omega, rfl⟩) f1 r1
  exact lp n N 0 M (by omega) (by omega) fz.rf h
theorem r_unseen {N n : Nat} {P : Nat → Nat → Int} {T : TxS} {H : HiS} {I : ImS} {E : SeS} {M : zMem} {Q : Int32 → zMem → Prop} (hN : 10000 ≤ N) (h : RR n P T H I E M) (hQ : ∀ M', fz 47 62 M M' → RR n P T H I E M' → Q (ubU P E n) M') : f_X8_unseen N M Q := by
  unfold f_X8_unseen
  intro M1 e1
  have f1 : fz 47 62 M M1 := by rw [e1]; exact fz_0
  have r1 : RR n P T H I E M1 := by rw [e1]; exact RR_0 h
  have hn := (RR_n r1.1).1
  have hE := h.2.2.2.2.1
  have lp : ∀ (r f a : Nat) (M' : zMem), r + a = n → r + 1 ≤ f → fz 47 62 M M' → RR n P T H I E M' → f_X8_unseen_l9 N Q f (ubU P E a) (iI (a : Int)) M' := by
    intro r
    induction r with
    | zero =>
      intro f a M' ha hf f1 r1
      obtain ⟨f, rfl⟩ : ∃ g, f = g + 1 := ⟨f - 1, by omega⟩
      show f_X8_unseen_b9 N (f_X8_unseen_l9 N Q f) (ubU P E a) (iI (a : Int)) M' Q
      unfold f_X8_unseen_b9
      rw [(RR_n r1.1).2]
      obtain rfl : a = n := by omega
      refine ⟨fun _ => hQ M' f1 r1, fun cc => ?_⟩
      simp (disch := omega) only [iI_m1, iI_0, iI_1, iI_2, iI_3, iI_4, iI_5, iI_6, iI_7, iI_8, iI_9, iI_10, iI_11, iI_12, iI_13, iI_16, iI_18, iI_20, iI_24, iI_31, iI_32, iI_33, iI_36, iI_48, iI_57, iI_59, iI_63, iI_64, iI_97, iI_100, iI_101, iI_130, iI_255, iI_256, iI_512, iI_1000, iI_1009, iI_2000, iI_2048, iI_32768, iI_2147483647, iI_add, iI_sub, iI_mul, iI_neg, iI_lt, iI_le, iI_eq, iI_in] at cc
      omega
    | succ r ih =>
      intro f a M' ha hf f1 r1
      obtain ⟨f, rfl⟩ : ∃ g, f = g + 1 := ⟨f - 1, by omega⟩
      show f_X8_unseen_b9 N (f_X8_unseen_l9 N Q f) (ubU P E a) (iI (a : Int)) M' Q
      unfold f_X8_unseen_b9
      rw [(RR_n r1.1).2]
      refine ⟨fun cc => ?_, fun _ => ?_⟩
      · simp (disch := omega) only [iI_m1, iI_0, iI_1, iI_2, iI_3, iI_4, iI_5, iI_6, iI_7, iI_8, iI_9, iI_10, iI_11, iI_12, iI_13, iI_16, iI_18, iI_20, iI_24, iI_31, iI_32, iI_33, iI_36, iI_48, iI_57, iI_59, iI_63, iI_64, iI_97, iI_100, iI_101, iI_130, iI_255, iI_256, iI_512, iI_1000, iI_1009, iI_2000, iI_2048, iI_32768, iI_2147483647, iI_add, iI_sub, iI_mul, iI_neg, iI_lt, iI_le, iI_eq, iI_in] at cc
        omega
      have b81 : ∀ (s : Int32) (M2 : zMem), ubU P E a ||| s = ubU P E (a + 1) → fz 47 62 M M2 → RR n P T H I E M2 → f_X8_unseen_b81 N (f_X8_unseen_l9 N Q f) (iI (a : Int)) (ubU P E a) s M2 Q := by
        intro s M2 hv f2 r2
        unfold f_X8_unseen_b81
        intro v e v' e'
        simp (disch := omega) only [iI_m1, iI_0, iI_1, iI_2, iI_3, iI_4, iI_5, iI_6, iI_7, iI_8, iI_9, iI_10, iI_11, iI_12, iI_13, iI_16, iI_18, iI_20, iI_24, iI_31, iI_32, iI_33, iI_36, iI_48, iI_57, iI_59, iI_63, iI_64, iI_97, iI_100, iI_101, iI_130, iI_255, iI_256, iI_512, iI_1000, iI_1009, iI_2000, iI_2048, iI_32768, iI_2147483647, iI_add, iI_sub, iI_mul, iI_neg, iI_lt, iI_le, iI_eq, iI_in] at e'
        subst e'
        rw [hv] at e
        subst e
        exact ih f (a + 1) M2 (by omega) (by omega) f2 r2
      have b69 : ∀ (x : Int32) (M2 : zMem), flg x (ftU P E a E.1) → fz 47 62 M M2 → RR n P T H I E M2 → f_X8_unseen_b69 N (f_X8_unseen_l9 N Q f) (ubU P E a) (iI (a : Int)) x M2 Q := by
        intro x M2 hx f2 r2
        unfold f_X8_unseen_b69
        rcases hx with ⟨hx, rfl⟩ | ⟨hx, rfl⟩
        · refine ⟨fun e => absurd e (by decide), fun _ => b81 _ M2 ?_ f2 r2⟩
          rw [show ubU P E (a + 1) = ifp (ftU P E a E.1) (ubU P E a ||| ((1 : Int32) <<< (iI (a : Int) &&& 31))) (ubU P E a) from rfl, ifp_t hx]
        · refine ⟨fun _ => b81 _ M2 ?_ f2 r2, fun e => absurd rfl e⟩
          rw [show ubU P E (a + 1) = ifp (ftU P E a E.1) (ubU P E a ||| ((1 : Int32) <<< (iI (a : Int) &&& 31))) (ubU P E a) from rfl, ifp_f hx, or0]
      have il : ∀ (s g k : Nat) (x : Int32) (M2 : zMem), s + k = E.1 → s + 1 ≤ g → flg x (ftU P E a k) → fz 47 62 M M2 → RR n P T H I E M2 → f_X8_unseen_l22 N (f_X8_unseen_l9 N Q f) (ubU P E a) (iI (a : Int)) Q g x (iI (k : Int)) M2 := by
        intro s
        induction s with
        | zero =>
          intro g k x M2 hk hg hx f2 r2
          obtain ⟨g, rfl⟩ : ∃ g', g = g' + 1 := ⟨g - 1, by omega⟩
          show f_X8_unseen_b22 N (f_X8_unseen_l9 N Q f) (f_X8_unseen_l22 N (f_X8_unseen_l9 N Q f) (ubU P E a) (iI (a : Int)) Q g) (ubU P E a) (iI (a : Int)) x (iI (k : Int)) M2 Q
          unfold f_X8_unseen_b22
          rw [r2.2.2.2.2.2.1]
          obtain rfl : k = E.1 := by omega
          refine ⟨fun _ => b69 x M2 hx f2 r2, fun cc => ?_⟩
          simp (disch := omega) only [iI_m1, iI_0, iI_1, iI_2, iI_3, iI_4, iI_5, iI_6, iI_7, iI_8, iI_9, iI_10, iI_11, iI_12, iI_13, iI_16, iI_18, iI_20, iI_24, iI_31, iI_32, iI_33, iI_36, iI_48, iI_57, iI_59, iI_63, iI_64, iI_97, iI_100, iI_101, iI_130, iI_255, iI_256, iI_512, iI_1000, iI_1009, iI_2000, iI_2048, iI_32768, iI_2147483647, iI_add, iI_sub, iI_mul, iI_neg, iI_lt, iI_le, iI_eq, iI_in] at cc
          omega
        | succ s ihs =>
          intro g k x M2 hk hg hx f2 r2
          obtain ⟨g, rfl⟩ : ∃ g', g = g' + 1 := ⟨g - 1, by omega⟩
          show f_X8_unseen_b22 N (f_X8_unseen_l9 N Q f) (f_X8_unseen_l22 N (f_X8_unseen_l9 N Q f) (ubU P E a) (iI (a : Int)) Q g) (ubU P E a) (iI (a : Int)) x (iI (k : Int)) M2 Q
          unfold f_X8_unseen_b22
          rw [r2.2.2.2.2.2.1]
          obtain ⟨s1, s2, s3, s4⟩ := r2.2.2.2.2.2.2 k (by omega)
          have vk : vp_in (iI (k : Int)) 6 := iI_in0 (by omega) (by omega) (by decide)
          refine ⟨fun cc => ?_, fun _ => ⟨fun w => ?_, fun w => ⟨vk, ?_⟩⟩⟩
          · simp (disch := omega) only [iI_m1, iI_0, iI_1, iI_2, iI_3, iI_4, iI_5, iI_6, iI_7, iI_8, iI_9, iI_10, iI_11, iI_12, iI_13, iI_16, iI_18, iI_20, iI_24, iI_31, iI_32, iI_33, iI_36, iI_48, iI_57, iI_59, iI_63, iI_64, iI_97, iI_100, iI_101, iI_130, iI_255, iI_256, iI_512, iI_1000, iI_1009, iI_2000, iI_2048, iI_32768, iI_2147483647, iI_add, iI_sub, iI_mul, iI_neg, iI_lt, iI_le, iI_eq, iI_in] at cc
            omega
          · rcases hx with ⟨hx, rfl⟩ | ⟨hx, rfl⟩
            · exact absurd w (by decide)
            · exact b69 _ M2 (Or.inr ⟨fun hh => hx (fun k' hk' => hh k' (by omega)), rfl⟩) f2 r2
          · rcases hx with ⟨hx, rfl⟩ | ⟨hx, rfl⟩
            · rw [zrd_iI (by omega) (by omega), toN, s3]
              refine r_count hN r2 (show a < n by omega) s1 (fun M3 f3 r3 => ⟨vk, ?_⟩)
              obtain ⟨t1, t2, t3, t4⟩ := r3.2.2.2.2.2.2 k (by omega)
              rw [zrd_iI (by omega) (by omega), toN, t4]
              have hs := svN_le P a (E.2.1 k)
              rw [iI_eq (by omega) (by omega) (by omega) (by omega)]
              have nxt : ∀ y : Int32, flg y (ftU P E a (k + 1)) → f_X8_unseen_b62 N (f_X8_unseen_l9 N Q f) (f_X8_unseen_l22 N (f_X8_unseen_l9 N Q f) (ubU P E a) (iI (a : Int)) Q g) (ubU P E a) (iI (a : Int)) (iI (k : Int)) y M3 Q := by
                intro y hy
                unfold f_X8_unseen_b62
                intro v e
                simp (disch := omega) only [iI_m1, iI_0, iI_1, iI_2, iI_3, iI_4, iI_5, iI_6, iI_7, iI_8, iI_9, iI_10, iI_11, iI_12, iI_13, iI_16, iI_18, iI_20, iI_24, iI_31, iI_32, iI_33, iI_36, iI_48, iI_57, iI_59, iI_63, iI_64, iI_97, iI_100, iI_101, iI_130, iI_255, iI_256, iI_512, iI_1000, iI_1009, iI_2000, iI_2048, iI_32768, iI_2147483647, iI_add, iI_sub, iI_mul, iI_neg, iI_lt, iI_le, iI_eq, iI_in] at e
                subst e
                exact ihs g (k + 1) y M3 (by omega) (by omega) hy (f2.tr f3) r3
              refine ⟨fun c => nxt 0 (Or.inr ⟨fun hh => c (by have := hh k (by omega); omega), rfl⟩), fun c => nxt 1 (Or.inl ⟨fun k' hk' => ?_, rfl⟩)⟩
              by_cases hkk : k' = k
              · subst hkk; omega
              · exact hx k' (by omega)
            · exact absurd rfl w
      exact il E.1 N 0 1 M' (by omega) (by omega) (Or.inl ⟨fun k' hk' => by omega, rfl⟩) f1 r1
  exact lp n N 0 M1 (by omega) (by omega) f1 r1
