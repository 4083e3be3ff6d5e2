/-! ===== the reference's meetings of two arcs ===== -/
theorem mts_in {p q : Nat → Int} : ∀ (d m n : Nat) (e : Ev), e ∈ mts p q d m n → ∃ k, k ≤ d ∧ m * 2 ^ k ≤ e.1 ∧ e.1 < (m + 1) * 2 ^ k ∧ n * 2 ^ k ≤ e.2.1 ∧ e.2.1 < (n + 1) * 2 ^ k := by
  intro d
  induction d with
  | zero =>
    intro m n e he
    rw [show mts p q 0 m n = ifp (apt p m q n = 0) [(m, n, ifp (cro p m q n) true false)] [] from rfl] at he
    rcases Classical.em (apt p m q n = 0) with h | h
    · rw [ifp_t h, List.mem_singleton] at he
      subst he
      exact ⟨0, Nat.le_refl _, by simp⟩
    · rw [ifp_f h] at he
      exact absurd he (by simp)
  | succ d ih =>
    intro m n e he
    rw [show mts p q (d + 1) m n = ifp (apt p m q n = 0) (ifp (cro p m q n) [(m, n, true)] (mts p q d (2 * m) (2 * n) ++ mts p q d (2 * m) (2 * n + 1) ++ mts p q d (2 * m + 1) (2 * n) ++ mts p q d (2 * m + 1) (2 * n + 1))) [] from rfl] at he
    rcases Classical.em (apt p m q n = 0) with h | h
    · rw [ifp_t h] at he
      rcases Classical.em (cro p m q n) with h2 | h2
      · rw [ifp_t h2, List.mem_singleton] at he
        subst he
        exact ⟨0, Nat.zero_le _, by simp⟩
      · rw [ifp_f h2] at he
        have sub : ∀ i j, i < 2 → j < 2 → e ∈ mts p q d (2 * m + i) (2 * n + j) → ∃ k, k ≤ d + 1 ∧ m * 2 ^ k ≤ e.1 ∧ e.1 < (m + 1) * 2 ^ k ∧ n * 2 ^ k ≤ e.2.1 ∧ e.2.1 < (n + 1) * 2 ^ k := by
          intro i j hi hj hm
          obtain ⟨k, k1, k2, k3, k4, k5⟩ := ih _ _ e hm
          have a1 := Nat.mul_le_mul_right (2 ^ k) (show 2 * m ≤ 2 * m + i by omega)
          have a2 := Nat.mul_le_mul_right (2 ^ k) (show 2 * m + i + 1 ≤ 2 * (m + 1) by omega)
          have a3 := Nat.mul_le_mul_right (2 ^ k) (show 2 * n ≤ 2 * n + j by omega)
          have a4 := Nat.mul_le_mul_right (2 ^ k) (show 2 * n + j + 1 ≤ 2 * (n + 1) by omega)
          have e2 : ∀ x, x * 2 ^ (k + 1) = 2 * x * 2 ^ k := by intro x; rw [Nat.pow_succ, Nat.mul_comm (2 ^ k) 2, ← Nat.mul_assoc, Nat.mul_comm x 2]
          refine ⟨k + 1, by omega, ?_, ?_, ?_, ?_⟩
          · rw [e2]; omega
          · rw [e2]; omega
          · rw [e2]; omega
          · rw [e2]; omega
        simp only [List.mem_append] at he
        rcases he with ((he | he) | he) | he
        · exact sub 0 0 (by decide) (by decide) he
        · exact sub 0 1 (by decide) (by decide) he
        · exact sub 1 0 (by decide) (by decide) he
        · exact sub 1 1 (by decide) (by decide) he
    · rw [ifp_f h] at he
      exact absurd he (by simp)
theorem okL_ML (p q : Nat → Int) : okL (ML p q) := by
  intro e he
  obtain ⟨k, k1, k2, k3, k4, k5⟩ := mts_in 5 1 1 e he
  rcases (show k = 0 ∨ k = 1 ∨ k = 2 ∨ k = 3 ∨ k = 4 ∨ k = 5 by omega) with rfl | rfl | rfl | rfl | rfl | rfl <;> simp at k2 k3 k4 k5 <;> omega
def wtN : Nat → Nat
  | 0 => 1
  | d + 1 => 1 + 4 * wtN d
def wtL : List (Nat × Nat × Nat) → Nat
  | [] => 0
  | e :: st => wtN e.1 + wtL st
theorem wtN_1 (d : Nat) : 1 ≤ wtN d := by cases d <;> simp [wtN] <;> omega
def rSet (c k : Nat) : Prop := c = 54 ∨ (57 ≤ c ∧ c ≤ 62) ∨ (c = 47 ∧ (k = 11 ∨ k = 19 ∨ k = 24 ∨ k = 27))
theorem fs_mr {M M' : zMem} (h : fs mSet M M') : fs rSet M M' := h.wide (fun c k h => by unfold mSet at h; unfold rSet; omega)
theorem fs_sr {M M' : zMem} (h : fs s60 M M') : fs rSet M M' := h.wide (fun c k h => by unfold s60 at h; unfold rSet; omega)
theorem fs_lr {M M' : zMem} (h : fs laySet M M') : fs rSet M M' := h.wide (fun c k h => by unfold laySet at h; unfold rSet; omega)
def r2Set (c k : Nat) : Prop := (57 ≤ c ∧ c ≤ 62) ∨ (c = 47 ∧ (k = 19 ∨ k = 24 ∨ k = 27))
theorem l_X8_meet {N a b : Nat} {p q : Nat → Int} {M0 : zMem} {Q : Int32 → zMem → Prop} (hN : 10000 ≤ N) (hA : RLd p a M0) (hB : RLd q b M0) (hQ0 : 100 < (ML p q).length → ∀ M', fs r2Set M0 M' → Q (iI 0) M') (hQ1 : ∀ M' sp, fs r2Set M0 M' → MR3 (ML p q) M' → IsSp (ML p q) sp → (∀ k, k < (ML p q).length → M'.1 60 k = iI (sp k : Int)) → M'.1 47 24 = iI (fc (ML p q) (ML p q).length : Int) → Q (iI 1) M') : ∀ (f : Nat) (l : List Ev) (st : List (Nat × Nat × Nat)) (M : zMem), wtL st + 1 ≤ f → fs r2Set M0 M → MR l M → WS st M → l ++ fm p q st = ML p q → f_X8_meet_l20 N (iI a) (iI b) Q f M := by
  intro f
  induction f with
  | zero => intro l st M h; omega
  | succ f ih =>
    intro l st M hw hf0 hM hW hl
    show f_X8_meet_b20 N (f_X8_meet_l20 N (iI a) (iI b) Q f) (iI a) (iI b) M Q
    unfold f_X8_meet_b20
    rw [hW.1]
    have hA1 := hA.fs hf0 (fun k => by unfold r2Set; omega)
    have hB1 := hB.fs hf0 (fun k => by unfold r2Set; omega)
    cases st with
    | nil =>
      refine ⟨fun _ => ?_, fun cc => absurd (by decide) cc⟩
      rw [show fm p q [] = [] from rfl, List.append_nil] at hl
      subst hl
      refine t_X8_laysSpots hN hM (okL_ML p q) ?_
      intro M' sp f1 q1 q2 q3
      refine hQ1 M' sp (hf0.tr (f1.wide (fun c k h => by unfold s60 at h; unfold r2Set; omega))) (MR3_s60 hM.to3 f1) q1 q2 q3
    | cons e st =>
      obtain ⟨d, m, n⟩ := e
      obtain ⟨t1, t2, t3⟩ := hW.2 0 (d, m, n) rfl
      rw [show ((d, m, n) :: st).length - 1 - 0 = st.length by simp] at t1 t2 t3
      simp only at t1 t2
      have hst : st.length ≤ 15 := by have := t3.1; omega
      have lc : (((d, m, n) :: st).length : Int) = (st.length : Int) + 1 := by simp
      rw [lc]
      refine ⟨fun cc => ?_, fun _ M9 g9 => ?_⟩
      · simp (disch := omega) only [iI_m1, iI_0, iI_1, iI_2, iI_3, iI_4, iI_5, iI_6, iI_7, iI_8, iI_9, iI_10, iI_11, iI_12, iI_13, iI_16, iI_18, iI_20, iI_24, iI_31, iI_32, iI_33, iI_36, iI_48, iI_57, iI_59, iI_63, iI_64, iI_97, iI_100, iI_101, iI_130, iI_255, iI_256, iI_512, iI_1000, iI_1009, iI_2000, iI_2048, iI_32768, iI_2147483647, iI_add, iI_sub, iI_mul, iI_neg, iI_lt, iI_le, iI_eq, iI_in] at cc
        omega
      simp (disch := omega) only [iI_m1, iI_0, iI_1, iI_2, iI_3, iI_4, iI_5, iI_6, iI_7, iI_8, iI_9, iI_10, iI_11, iI_12, iI_13, iI_16, iI_18, iI_20, iI_24, iI_31, iI_32, iI_33, iI_36, iI_48, iI_57, iI_59, iI_63, iI_64, iI_97, iI_100, iI_101, iI_130, iI_255, iI_256, iI_512, iI_1000, iI_1009, iI_2000, iI_2048, iI_32768, iI_2147483647, iI_add, iI_sub, iI_mul, iI_neg, iI_lt, iI_le, iI_eq, iI_in] at g9
      rw [show ((st.length : Int) + 1 - 1) = (st.length : Int) by omega] at g9
      have f9 : fs r2Set M M9 := by subst g9; exact fs_wI (Or.inr ⟨rfl, Or.inr (Or.inr rfl)⟩)
      have w9 : M9.1 47 27 = iI (st.length : Int) := by subst g9; rw [zwI_1, if_pos ⟨rfl, rfl⟩]
      have u1 : M9.1 61 st.length = iI (m : Int) := by subst g9; rw [zwI_1, if_neg (by omega)]; exact t1
      have u2 : M9.1 62 st.length = iI (n : Int) := by subst g9; rw [zwI_1, if_neg (by omega)]; exact t2
      have hW9 : WS st M9 := by
        refine ⟨w9, fun j e hj => ?_⟩
        obtain ⟨x1, x2, x3⟩ := hW.2 (j + 1) e hj
        rw [show ((d, m, n) :: st).length - 1 - (j + 1) = st.length - 1 - j by simp; omega] at x1 x2 x3
        subst g9
        rw [zwI_1, if_neg (by omega), zwI_1, if_neg (by omega)]
        exact ⟨x1, x2, x3⟩
      have hM9 : MR l M9 := by
        subst g9
        exact hM.fs (S := fun c k => c = 47 ∧ k = 27) (fs_wI ⟨rfl, rfl⟩) (by omega) (fun c k _ _ => by omega)
      rw [w9]
      have v9 : vp_in (iI (st.length : Int)) 64 := iI_in0 (by omega) (by omega) (by decide)
      refine ⟨v9, v9, ?_⟩
      rw [zrd_iI (by omega) (by omega), zrd_iI (by omega) (by omega), show ((st.length : Nat) : Int).toNat = st.length by omega, u1, u2]
      have hl2 : l ++ (mts p q d m n ++ fm p q st) = ML p q := by rw [← hl]; rfl
      refine t_X8_isTooMany (by omega) (hA1.fs f9 (fun k => by unfold r2Set; omega)) (hB1.fs f9 (fun k => by unfold r2Set; omega)) hM9 hW9 t3 (fun k1 k2 => ?_) ?_
      · refine ⟨fun e => absurd e (by decide), fun _ => ?_⟩
        refine hQ0 ?_ M9 (hf0.tr f9)
        rw [← hl2, List.length_append, List.length_append]
        have : 0 < (mts p q d m n).length := List.length_pos_iff.mpr k2
        omega
      · intro M' l' st' f1 m1 w1 c1 c2
        refine ⟨fun _ => ?_, fun e => absurd rfl e⟩
        refine ih l' st' M' ?_ ((hf0.tr f9).tr (f1.wide (fun c k h => by unfold mSet at h; unfold r2Set; omega))) m1 w1 (c2.trans hl2)
        have hd := wtN_1 d
        rw [show wtL ((d, m, n) :: st) = wtN d + wtL st from rfl] at hw
        rcases c1 with c1 | ⟨d', c1, c3⟩
        · rw [c1]; omega
        · rw [c3]
          subst c1
          rw [show wtN (d' + 1) = 1 + 4 * wtN d' from rfl] at hw
          simp only [wtL]
          omega
/-- the arcs as the reference has them, with what it has laid out -/
def RRl (n : Nat) (P : Nat → Nat → Int) (M : zMem) : Prop := SR n P M ∧ (M.1 47 11 = 0 ∨ (M.1 47 11 = 1 ∧ ∀ a, a < n → RLd (P a) a M))
theorem t_X8_meet {N n a b : Nat} {P : Nat → Nat → Int} {M : zMem} {Q : Int32 → zMem → Prop} (hN : 10000 ≤ N) (hR : RRl n P M) (ha : a < n) (hb : b < n) (hQ0 : 100 < (ML (P a) (P b)).length → ∀ M', fs rSet M M' → RRl n P M' → Q (iI 0) M') (hQ1 : ∀ M' sp, fs rSet M M' → RRl n P M' → (∀ c, c < n → RLd (P c) c M') → MR3 (ML (P a) (P b)) M' → IsSp (ML (P a) (P b)) sp → (∀ k, k < (ML (P a) (P b)).length → M'.1 60 k = iI (sp k : Int)) → M'.1 47 24 = iI (fc (ML (P a) (P b)) (ML (P a) (P b)).length : Int) → Q (iI 1) M') : f_X8_meet N (iI a) (iI b) M Q := by
  unfold f_X8_meet
  refine t_X8_lays (by omega) hR.1 hR.2 ?_
  intro M2 f2 l2 r2 M3 g3 M4 g4
  have f24 : fs r2Set M2 M4 := by
    subst g3; subst g4
    exact (fs_wI (Or.inr ⟨rfl, Or.inl rfl⟩)).tr (fs_wI (Or.inr ⟨rfl, Or.inr (Or.inr rfl)⟩))
  have w4 : WS [] M4 := ⟨by subst g4; rw [zwI_1, if_pos ⟨rfl, rfl⟩]; rfl, fun j e hj => by simp at hj⟩
  have m4 : MR [] M4 := ⟨by subst g4; rw [zwI_1, if_neg (by omega)]; subst g3; rw [zwI_1, if_pos ⟨rfl, rfl⟩]; rfl, by decide, fun j e hj => by simp at hj⟩
  refine t_X8_waits (d := 5) (m := 1) (n := 1) w4 ⟨by decide, by decide, by decide, by decide, by decide, by decide, by decide⟩ ?_
  intro M6 f6 w6
  have f26 : fs r2Set M2 M6 := f24.tr (f6.wide (fun c k h => by unfold wSet at h; unfold r2Set; omega))
  have bk : ∀ M', fs r2Set M2 M' → fs rSet M M' ∧ RRl n P M' ∧ (∀ c, c < n → RLd (P c) c M') := by
    intro M' hf
    have h1 : fs rSet M M' := (fs_lr f2).tr (hf.wide (fun c k h => by unfold r2Set at h; unfold rSet; omega))
    have h2 : ∀ c, c < n → RLd (P c) c M' := fun a ha => (r2 a ha).fs hf (fun k => by unfold r2Set; omega)
    exact ⟨h1, ⟨hR.1.fs h1 (by unfold rSet; omega) (fun k => by unfold rSet; omega), Or.inr ⟨(hf.2 47 11 (by unfold r2Set; omega)).trans l2, h2⟩⟩, h2⟩
  refine l_X8_meet (M0 := M2) hN (r2 a ha) (r2 b hb) (fun h M' hf => hQ0 h M' (bk M' hf).1 (bk M' hf).2.1) (fun M' sp hf q1 q2 q3 q4 => hQ1 M' sp (bk M' hf).1 (bk M' hf).2.1 (bk M' hf).2.2 q1 q2 q3 q4) N [] [(5, 1, 1)] M6 ?_ f26 (m4.fs f6 (by unfold wSet; omega) (fun c k _ _ => by unfold wSet; omega)) w6 ?_
  · simp only [wtL, wtN]; omega
  · simp [fm, ML]
