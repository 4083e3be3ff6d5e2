/-! ===== a text read: the reference ===== -/
def tkS (c k : Nat) : Prop := c = 47 ∧ (k = 14 ∨ k = 15 ∨ k = 16)
def pkS (c k : Nat) : Prop := c = 56 ∨ (c = 47 ∧ (k = 14 ∨ k = 15 ∨ k = 16 ∨ k = 18))
theorem rT_fs {T : TxS} {M M' : zMem} {S : Nat → Nat → Prop} (h : rT T M) (hf : fs S M M') (h1 : ¬ S 47 12) (h2 : ∀ k, ¬ S 55 k) : rT T M' := ⟨h.1, (hf.2 _ _ h1).trans h.2.1, fun k hk => ⟨(h.2.2 k hk).1, (hf.2 _ _ (h2 k)).trans (h.2.2 k hk).2⟩⟩
def TK (T : TxS) (p : Nat) (M : zMem) : Prop := M.1 47 15 = iI (p : Int) ∧ ((p = T.1 ∧ M.1 47 16 = iI (-1) ∧ M.1 47 14 = iI (p : Int)) ∨ (p < T.1 ∧ T.2 p ≠ 32 ∧ ((isF T p ∧ ¬ isF T (p + 1) ∧ M.1 47 16 = iI (1000 + (T.2 p - 48)) ∧ M.1 47 14 = iI ((p + 1 : Nat) : Int)) ∨ (isF T p ∧ isF T (p + 1) ∧ M.1 47 16 = iI 2000) ∨ (¬ isF T p ∧ M.1 47 16 = iI (T.2 p) ∧ M.1 47 14 = iI ((p + 1 : Nat) : Int)))))
theorem t_X8_isFigure {N p : Nat} {T : TxS} {M : zMem} {Q : Int32 → zMem → Prop} (hT : rT T M) (hp : p ≤ 131) (hQ1 : isF T p → Q (iI 1) M) (hQ0 : ¬ isF T p → Q (iI 0) M) : f_X8_isFigure N (iI (p : Int)) M Q := by
  unfold f_X8_isFigure
  have hl := hT.1
  rw [hT.2.1]
  refine ⟨fun c => ?_, fun c => ?_⟩
  · simp (disch := omega) only [iI_m1, iI_0, iI_1, iI_2, iI_3, iI_4, iI_5, iI_6, iI_7, iI_8, iI_9, iI_10, iI_11, iI_12, iI_13, iI_16, iI_18, iI_20, iI_24, iI_31, iI_32, iI_33, iI_36, iI_48, iI_57, iI_59, iI_63, iI_64, iI_97, iI_100, iI_101, iI_130, iI_255, iI_256, iI_512, iI_1000, iI_1009, iI_2000, iI_2048, iI_32768, iI_2147483647, iI_add, iI_sub, iI_mul, iI_neg, iI_lt, iI_le, iI_eq, iI_in] at c
    exact hQ0 (fun w => by have := w.1; omega)
  · simp (disch := omega) only [iI_m1, iI_0, iI_1, iI_2, iI_3, iI_4, iI_5, iI_6, iI_7, iI_8, iI_9, iI_10, iI_11, iI_12, iI_13, iI_16, iI_18, iI_20, iI_24, iI_31, iI_32, iI_33, iI_36, iI_48, iI_57, iI_59, iI_63, iI_64, iI_97, iI_100, iI_101, iI_130, iI_255, iI_256, iI_512, iI_1000, iI_1009, iI_2000, iI_2048, iI_32768, iI_2147483647, iI_add, iI_sub, iI_mul, iI_neg, iI_lt, iI_le, iI_eq, iI_in] at c
    obtain ⟨t1, t2⟩ := hT.2.2 p (by omega)
    rw [zrd_iI (by omega) (by omega), toN, t2]
    refine ⟨iI_in0 (by omega) (by omega) (by decide), ?_⟩
    refine t_X8_in (z := T.2 p) (lo := 48) (hi := 57) (by omega) (by decide) (by decide) (fun w => ?_) (fun w => ?_)
    · exact ⟨fun e => absurd e (by decide), fun _ => hQ1 ⟨by omega, w⟩⟩
    · exact ⟨fun _ => hQ0 (fun q => w q.2), fun e => absurd rfl e⟩
theorem t_X8_takes {N p : Nat} {T : TxS} {M : zMem} {Q : zMem → Prop} (hN : 300 ≤ N) (hT : rT T M) (hp : p ≤ T.1) (hn : M.1 47 14 = iI (p : Int)) (hQ : ∀ M' p', p ≤ p' → p' ≤ T.1 → (∀ k, p ≤ k → k < p' → T.2 k = 32) → fs tkS M M' → TK T p' M' → Q M') : f_X8_takes N M Q := by
  unfold f_X8_takes
  have hl := hT.1
  have b38 : ∀ (p' : Nat) (M' : zMem), p ≤ p' → p' ≤ T.1 → (∀ k, p ≤ k → k < p' → T.2 k = 32) → (p' < T.1 → T.2 p' ≠ 32) → fs tkS M M' → M'.1 47 14 = iI (p' : Int) → f_X8_takes_b38 N M' Q := by
    intro p' M' h1 h2 h3 h4 f1 n1
    unfold f_X8_takes_b38
    intro M1 e1
    rw [n1] at e1
    have f2 : fs tkS M M1 := f1.tr (by subst e1; exact fs_wI ⟨rfl, by omega⟩)
    have t1 := rT_fs hT f2 (by unfold tkS; omega) (fun k => by unfold tkS; omega)
    have n2 : M1.1 47 14 = iI (p' : Int) := by subst e1; rw [zwI_1, if_neg (by omega)]; exact n1
    have b2 : M1.1 47 15 = iI (p' : Int) := by subst e1; rw [zwI_1, if_pos ⟨rfl, rfl⟩]
    rw [t1.2.1, n2]
    have b71 : ∀ s : Int, (p' = T.1 → s = -1) → (p' < T.1 → s = T.2 p') → f_X8_takes_b71 N (iI s) M1 Q := by
      intro s s1 s2
      unfold f_X8_takes_b71
      intro M2 e2
      have f3 : fs tkS M M2 := f2.tr (by subst e2; exact fs_wI ⟨rfl, by omega⟩)
      have t2 := rT_fs hT f3 (by unfold tkS; omega) (fun k => by unfold tkS; omega)
      have n3 : M2.1 47 14 = iI (p' : Int) := by subst e2; rw [zwI_1, if_neg (by omega)]; exact n2
      have b3 : M2.1 47 15 = iI (p' : Int) := by subst e2; rw [zwI_1, if_neg (by omega)]; exact b2
      have k3 : M2.1 47 16 = iI s := by subst e2; rw [zwI_1, if_pos ⟨rfl, rfl⟩]
      rw [n3]
      refine t_X8_isFigure t2 (by omega) (fun w => ?_) (fun w => ?_)
      · refine ⟨fun _ => ?_, fun e => absurd e (by decide)⟩
        have hp' : p' < T.1 := w.1
        have lp : ∀ (r f q : Nat) (M3 : zMem), r + q = T.1 → r + 1 ≤ f → p' ≤ q → (∀ k, p' ≤ k → k < q → isF T k) → fs tkS M M3 → M3.1 47 14 = iI (q : Int) → M3.1 47 15 = iI (p' : Int) → f_X8_takes_l111 N Q f M3 := by
          intro r
          induction r with
          | zero =>
            intro f q M3 hq hf hpq hall f4 n4 b4
            obtain ⟨f, rfl⟩ : ∃ g, f = g + 1 := ⟨f - 1, by omega⟩
            show f_X8_takes_b111 N (f_X8_takes_l111 N Q f) M3 Q
            unfold f_X8_takes_b111
            have t3 := rT_fs hT f4 (by unfold tkS; omega) (fun k => by unfold tkS; omega)
            rw [n4]
            refine t_X8_isFigure t3 (by omega) (fun w2 => by have := w2.1; omega) (fun w2 => ?_)
            rw [n4, b4, iI_1, iI_add]
            refine ⟨fun _ => ⟨fun c => ?_, fun c => ?_⟩, fun e => absurd rfl e⟩
            · simp (disch := omega) only [iI_m1, iI_0, iI_1, iI_2, iI_3, iI_4, iI_5, iI_6, iI_7, iI_8, iI_9, iI_10, iI_11, iI_12, iI_13, iI_16, iI_18, iI_20, iI_24, iI_31, iI_32, iI_33, iI_36, iI_48, iI_57, iI_59, iI_63, iI_64, iI_97, iI_100, iI_101, iI_130, iI_255, iI_256, iI_512, iI_1000, iI_1009, iI_2000, iI_2048, iI_32768, iI_2147483647, iI_add, iI_sub, iI_mul, iI_neg, iI_lt, iI_le, iI_eq, iI_in] at c
              refine ⟨iI_in0 (by omega) (by omega) (by decide), ?_⟩
              unfold f_X8_takes_b171
              intro M7 e7
              rw [zrd_iI (by omega) (by omega), toN, (t3.2.2 p' hp').2, show (1000 : Int32) = iI 1000 from rfl, show (48 : Int32) = iI 48 from rfl, iI_add, iI_sub] at e7
              refine hQ M7 p' h1 h2 h3 (f4.tr (by subst e7; exact fs_wI ⟨rfl, by omega⟩)) ⟨by subst e7; rw [zwI_1, if_neg (by omega)]; exact b4, Or.inr ⟨hp', h4 hp', Or.inl ⟨w, ?_, ?_, ?_⟩⟩⟩
              · rw [show p' + 1 = q by omega]; exact w2
              · subst e7; rw [zwI_1, if_pos ⟨rfl, rfl⟩]; congr 1; omega
              · subst e7; rw [zwI_1, if_neg (by omega), n4]; congr 2; omega
            · simp (disch := omega) only [iI_m1, iI_0, iI_1, iI_2, iI_3, iI_4, iI_5, iI_6, iI_7, iI_8, iI_9, iI_10, iI_11, iI_12, iI_13, iI_16, iI_18, iI_20, iI_24, iI_31, iI_32, iI_33, iI_36, iI_48, iI_57, iI_59, iI_63, iI_64, iI_97, iI_100, iI_101, iI_130, iI_255, iI_256, iI_512, iI_1000, iI_1009, iI_2000, iI_2048, iI_32768, iI_2147483647, iI_add, iI_sub, iI_mul, iI_neg, iI_lt, iI_le, iI_eq, iI_in] at c
              unfold f_X8_takes_b171
              intro M7 e7
              exact hQ M7 p' h1 h2 h3 (f4.tr (by subst e7; exact fs_wI ⟨rfl, by omega⟩)) ⟨by subst e7; rw [zwI_1, if_neg (by omega)]; exact b4, Or.inr ⟨hp', h4 hp', Or.inr (Or.inl ⟨w, hall (p' + 1) (by omega) (by omega), by subst e7; rw [zwI_1, if_pos ⟨rfl, rfl⟩]; rfl⟩)⟩⟩
          | succ r ih =>
            intro f q M3 hq hf hpq hall f4 n4 b4
            obtain ⟨f, rfl⟩ : ∃ g, f = g + 1 := ⟨f - 1, by omega⟩
            show f_X8_takes_b111 N (f_X8_takes_l111 N Q f) M3 Q
            unfold f_X8_takes_b111
            have t3 := rT_fs hT f4 (by unfold tkS; omega) (fun k => by unfold tkS; omega)
            rw [n4]
            refine t_X8_isFigure t3 (by omega) (fun w2 => ?_) (fun w2 => ?_)
            · refine ⟨fun e => absurd e (by decide), fun _ M8 e8 => ?_⟩
              rw [n4, iI_1, iI_add] at e8
              refine ih f (q + 1) M8 (by omega) (by omega) (by omega) (fun k k1 k2 => ?_) (f4.tr (by subst e8; exact fs_wI ⟨rfl, by omega⟩)) ?_ ?_
              · by_cases hkq : k = q
                · subst hkq; exact w2
                · exact hall k k1 (by omega)
              · subst e8; rw [zwI_1, if_pos ⟨rfl, rfl⟩]; rfl
              · subst e8; rw [zwI_1, if_neg (by omega)]; exact b4
            · rw [n4, b4, iI_1, iI_add]
              have hqp : p' < q := by
                rcases Nat.lt_or_ge p' q with w3 | w3
                · exact w3
                · rw [show q = p' by omega] at w2
                  exact absurd w w2
              refine ⟨fun _ => ⟨fun c => ?_, fun c => ?_⟩, fun e => absurd rfl e⟩
              · simp (disch := omega) only [iI_m1, iI_0, iI_1, iI_2, iI_3, iI_4, iI_5, iI_6, iI_7, iI_8, iI_9, iI_10, iI_11, iI_12, iI_13, iI_16, iI_18, iI_20, iI_24, iI_31, iI_32, iI_33, iI_36, iI_48, iI_57, iI_59, iI_63, iI_64, iI_97, iI_100, iI_101, iI_130, iI_255, iI_256, iI_512, iI_1000, iI_1009, iI_2000, iI_2048, iI_32768, iI_2147483647, iI_add, iI_sub, iI_mul, iI_neg, iI_lt, iI_le, iI_eq, iI_in] at c
                refine ⟨iI_in0 (by omega) (by omega) (by decide), ?_⟩
                unfold f_X8_takes_b171
                intro M7 e7
                rw [zrd_iI (by omega) (by omega), toN, (t3.2.2 p' hp').2, show (1000 : Int32) = iI 1000 from rfl, show (48 : Int32) = iI 48 from rfl, iI_add, iI_sub] at e7
                refine hQ M7 p' h1 h2 h3 (f4.tr (by subst e7; exact fs_wI ⟨rfl, by omega⟩)) ⟨by subst e7; rw [zwI_1, if_neg (by omega)]; exact b4, Or.inr ⟨hp', h4 hp', Or.inl ⟨w, ?_, ?_, ?_⟩⟩⟩
                · rw [show p' + 1 = q by omega]; exact w2
                · subst e7; rw [zwI_1, if_pos ⟨rfl, rfl⟩]; congr 1; omega
                · subst e7; rw [zwI_1, if_neg (by omega), n4]; congr 2; omega
              · simp (disch := omega) only [iI_m1, iI_0, iI_1, iI_2, iI_3, iI_4, iI_5, iI_6, iI_7, iI_8, iI_9, iI_10, iI_11, iI_12, iI_13, iI_16, iI_18, iI_20, iI_24, iI_31, iI_32, iI_33, iI_36, iI_48, iI_57, iI_59, iI_63, iI_64, iI_97, iI_100, iI_101, iI_130, iI_255, iI_256, iI_512, iI_1000, iI_1009, iI_2000, iI_2048, iI_32768, iI_2147483647, iI_add, iI_sub, iI_mul, iI_neg, iI_lt, iI_le, iI_eq, iI_in] at c
                unfold f_X8_takes_b171
                intro M7 e7
                exact hQ M7 p' h1 h2 h3 (f4.tr (by subst e7; exact fs_wI ⟨rfl, by omega⟩)) ⟨by subst e7; rw [zwI_1, if_neg (by omega)]; exact b4, Or.inr ⟨hp', h4 hp', Or.inr (Or.inl ⟨w, hall (p' + 1) (by omega) (by omega), by subst e7; rw [zwI_1, if_pos ⟨rfl, rfl⟩]; rfl⟩)⟩⟩
        exact lp (T.1 - p') N p' M2 (by omega) (by omega) (Nat.le_refl _) (fun k k1 k2 => by omega) f3 n3 b3
      · refine ⟨fun e => absurd rfl e, fun _ => ?_⟩
        rw [t2.2.1, n3]
        refine ⟨fun c => ?_, fun c => ?_⟩
        · simp (disch := omega) only [iI_m1, iI_0, iI_1, iI_2, iI_3, iI_4, iI_5, iI_6, iI_7, iI_8, iI_9, iI_10, iI_11, iI_12, iI_13, iI_16, iI_18, iI_20, iI_24, iI_31, iI_32, iI_33, iI_36, iI_48, iI_57, iI_59, iI_63, iI_64, iI_97, iI_100, iI_101, iI_130, iI_255, iI_256, iI_512, iI_1000, iI_1009, iI_2000, iI_2048, iI_32768, iI_2147483647, iI_add, iI_sub, iI_mul, iI_neg, iI_lt, iI_le, iI_eq, iI_in] at c
          unfold f_X8_takes_b106
          intro M9 e9
          rw [iI_0, iI_add, Int.add_zero] at e9
          refine hQ M9 p' h1 h2 h3 (f3.tr (by subst e9; exact fs_wI ⟨rfl, by omega⟩)) ⟨by subst e9; rw [zwI_1, if_neg (by omega)]; exact b3, Or.inl ⟨by omega, ?_, ?_⟩⟩
          · subst e9; rw [zwI_1, if_neg (by omega), k3, s1 (by omega)]
          · subst e9; rw [zwI_1, if_pos ⟨rfl, rfl⟩]
        · simp (disch := omega) only [iI_m1, iI_0, iI_1, iI_2, iI_3, iI_4, iI_5, iI_6, iI_7, iI_8, iI_9, iI_10, iI_11, iI_12, iI_13, iI_16, iI_18, iI_20, iI_24, iI_31, iI_32, iI_33, iI_36, iI_48, iI_57, iI_59, iI_63, iI_64, iI_97, iI_100, iI_101, iI_130, iI_255, iI_256, iI_512, iI_1000, iI_1009, iI_2000, iI_2048, iI_32768, iI_2147483647, iI_add, iI_sub, iI_mul, iI_neg, iI_lt, iI_le, iI_eq, iI_in] at c
          unfold f_X8_takes_b106
          intro M9 e9
          rw [iI_1, iI_add] at e9
          refine hQ M9 p' h1 h2 h3 (f3.tr (by subst e9; exact fs_wI ⟨rfl, by omega⟩)) ⟨by subst e9; rw [zwI_1, if_neg (by omega)]; exact b3, Or.inr ⟨by omega, h4 (by omega), Or.inr (Or.inr ⟨w, ?_, ?_⟩)⟩⟩
          · subst e9; rw [zwI_1, if_neg (by omega), k3, s2 (by omega)]
          · subst e9; rw [zwI_1, if_pos ⟨rfl, rfl⟩]; rfl
    refine ⟨fun c => ?_, fun c => ?_⟩
    · simp (disch := omega) only [iI_m1, iI_0, iI_1, iI_2, iI_3, iI_4, iI_5, iI_6, iI_7, iI_8, iI_9, iI_10, iI_11, iI_12, iI_13, iI_16, iI_18, iI_20, iI_24, iI_31, iI_32, iI_33, iI_36, iI_48, iI_57, iI_59, iI_63, iI_64, iI_97, iI_100, iI_101, iI_130, iI_255, iI_256, iI_512, iI_1000, iI_1009, iI_2000, iI_2048, iI_32768, iI_2147483647, iI_add, iI_sub, iI_mul, iI_neg, iI_lt, iI_le, iI_eq, iI_in] at c
      exact b71 (-1) (fun _ => rfl) (fun w => by omega)
    · simp (disch := omega) only [iI_m1, iI_0, iI_1, iI_2, iI_3, iI_4, iI_5, iI_6, iI_7, iI_8, iI_9, iI_10, iI_11, iI_12, iI_13, iI_16, iI_18, iI_20, iI_24, iI_31, iI_32, iI_33, iI_36, iI_48, iI_57, iI_59, iI_63, iI_64, iI_97, iI_100, iI_101, iI_130, iI_255, iI_256, iI_512, iI_1000, iI_1009, iI_2000, iI_2048, iI_32768, iI_2147483647, iI_add, iI_sub, iI_mul, iI_neg, iI_lt, iI_le, iI_eq, iI_in] at c
      rw [zrd_iI (by omega) (by omega), toN, (t1.2.2 p' (by omega)).2]
      exact ⟨iI_in0 (by omega) (by omega) (by decide), b71 _ (fun w => by omega) (fun _ => rfl)⟩
  have lp0 : ∀ (r f q : Nat) (M' : zMem), r + q = T.1 → r + 1 ≤ f → p ≤ q → (∀ k, p ≤ k → k < q → T.2 k = 32) → fs tkS M M' → M'.1 47 14 = iI (q : Int) → f_X8_takes_l0 N Q f M' := by
    intro r
    induction r with
    | zero =>
      intro f q M' hq hf hpq hall f1 n1
      obtain ⟨f, rfl⟩ : ∃ g, f = g + 1 := ⟨f - 1, by omega⟩
      show f_X8_takes_b0 N (f_X8_takes_l0 N Q f) M' Q
      unfold f_X8_takes_b0
      have t1 := rT_fs hT f1 (by unfold tkS; omega) (fun k => by unfold tkS; omega)
      rw [t1.2.1, n1]
      refine ⟨fun _ => b38 q M' hpq (by omega) hall (fun w => by omega) f1 n1, fun cc => ?_⟩
      simp (disch := omega) only [iI_m1, iI_0, iI_1, iI_2, iI_3, iI_4, iI_5, iI_6, iI_7, iI_8, iI_9, iI_10, iI_11, iI_12, iI_13, iI_16, iI_18, iI_20, iI_24, iI_31, iI_32, iI_33, iI_36, iI_48, iI_57, iI_59, iI_63, iI_64, iI_97, iI_100, iI_101, iI_130, iI_255, iI_256, iI_512, iI_1000, iI_1009, iI_2000, iI_2048, iI_32768, iI_2147483647, iI_add, iI_sub, iI_mul, iI_neg, iI_lt, iI_le, iI_eq, iI_in] at cc
      omega
    | succ r ih =>
      intro f q M' hq hf hpq hall f1 n1
      obtain ⟨f, rfl⟩ : ∃ g, f = g + 1 := ⟨f - 1, by omega⟩
      show f_X8_takes_b0 N (f_X8_takes_l0 N Q f) M' Q
      unfold f_X8_takes_b0
      have t1 := rT_fs hT f1 (by unfold tkS; omega) (fun k => by unfold tkS; omega)
      obtain ⟨u1, u2⟩ := t1.2.2 q (by omega)
      rw [t1.2.1, n1]
      refine ⟨fun cc => ?_, fun _ => ⟨iI_in0 (by omega) (by omega) (by decide), ?_⟩⟩
      · simp (disch := omega) only [iI_m1, iI_0, iI_1, iI_2, iI_3, iI_4, iI_5, iI_6, iI_7, iI_8, iI_9, iI_10, iI_11, iI_12, iI_13, iI_16, iI_18, iI_20, iI_24, iI_31, iI_32, iI_33, iI_36, iI_48, iI_57, iI_59, iI_63, iI_64, iI_97, iI_100, iI_101, iI_130, iI_255, iI_256, iI_512, iI_1000, iI_1009, iI_2000, iI_2048, iI_32768, iI_2147483647, iI_add, iI_sub, iI_mul, iI_neg, iI_lt, iI_le, iI_eq, iI_in] at cc
        omega
      · rw [zrd_iI (by omega) (by omega), toN, u2, iI_32, iI_eq (by omega) (by omega) (by decide) (by decide)]
        refine ⟨fun c => b38 q M' hpq (by omega) hall (fun _ => c) f1 n1, fun c M10 e10 => ?_⟩
        rw [iI_1, iI_add] at e10
        refine ih f (q + 1) M10 (by omega) (by omega) (by omega) (fun k k1 k2 => ?_) (f1.tr (by subst e10; exact fs_wI ⟨rfl, by omega⟩)) (by subst e10; rw [zwI_1, if_pos ⟨rfl, rfl⟩]; rfl)
        by_cases hkq : k = q
        · subst hkq; exact c
        · exact hall k k1 (by omega)
  exact lp0 (T.1 - p) N p M (by omega) (by omega) (Nat.le_refl _) (fun k k1 k2 => by omega) fs.rf hn
noncomputable def GP (T : TxS) (p : Nat) (s : PS) : PR := FP T (T.1 - p) p s
theorem GP_sp {T : TxS} {p : Nat} {s : PS} (h : p < T.1) (h2 : T.2 p = 32) : GP T p s = GP T (p + 1) s := by
  unfold GP
  rw [show T.1 - p = (T.1 - (p + 1)) + 1 by omega]
  show ifp (T.2 p = 32) _ _ = _
  rw [ifp_t h2]
theorem GP_skip {T : TxS} {s : PS} : ∀ (r p p' : Nat), r + p = p' → p' ≤ T.1 → (∀ k, p ≤ k → k < p' → T.2 k = 32) → GP T p s = GP T p' s := by
  intro r
  induction r with
  | zero => intro p p' h _ _; rw [show p = p' by omega]
  | succ r ih =>
    intro p p' h h1 h2
    rw [GP_sp (by omega) (h2 p (Nat.le_refl _) (by omega))]
    exact ih (p + 1) p' (by omega) h1 (fun k k1 k2 => h2 k (by omega) k2)
theorem GP_end {T : TxS} {s : PS} : GP T T.1 s = (ifp (s.2.1 = -1) (-1) (T.1 : Int), s.1, s.2.2.2) := by
  unfold GP
  rw [Nat.sub_self]
  rfl
theorem GP_no {T : TxS} {p : Nat} {s : PS} (h : p < T.1) (h2 : T.2 p ≠ 32) (h3 : stP T p s = none) : (GP T p s).1 = (p : Int) := by
  unfold GP
  rw [show T.1 - p = (T.1 - (p + 1)) + 1 by omega]
  show (ifp (T.2 p = 32) (FP T (T.1 - (p + 1)) (p + 1) s) (match stP T p s with
    | none => ((p : Int), s.1, s.2.2.2)
    | some s' => FP T (T.1 - (p + 1)) (p + 1) s')).1 = _
  rw [ifp_f h2, h3]
theorem GP_yes {T : TxS} {p : Nat} {s s' : PS} (h : p < T.1) (h2 : T.2 p ≠ 32) (h3 : stP T p s = some s') : GP T p s = GP T (p + 1) s' := by
  unfold GP
  rw [show T.1 - p = (T.1 - (p + 1)) + 1 by omega]
  show (ifp (T.2 p = 32) (FP T (T.1 - (p + 1)) (p + 1) s) (match stP T p s with
    | none => ((p : Int), s.1, s.2.2.2)
    | some s' => FP T (T.1 - (p + 1)) (p + 1) s')) = _
  rw [ifp_f h2, h3]
