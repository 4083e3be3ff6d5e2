/-! ===== the reference's meetings: pairs that wait in a row ===== -/
def MR (l : List Ev) (M : zMem) : Prop := M.1 47 19 = iI (l.length : Int) ∧ l.length ≤ 100 ∧ ∀ (k : Nat) (e : Ev), l[k]? = some e → M.1 57 k = iI e.1 ∧ M.1 58 k = iI e.2.1 ∧ M.1 59 k = iI (bI e.2.2) ∧ M.1 60 k = iI (k : Int)
/-- a pair that waits: remaining halvings, nodes; at its place i from the bottom -/
def okP (i : Nat) (e : Nat × Nat × Nat) : Prop := i + 3 * e.1 ≤ 15 ∧ 1 ≤ e.2.1 ∧ 1 ≤ e.2.2 ∧ 32 ≤ e.2.1 * 2 ^ e.1 ∧ (e.2.1 + 1) * 2 ^ e.1 ≤ 64 ∧ 32 ≤ e.2.2 * 2 ^ e.1 ∧ (e.2.2 + 1) * 2 ^ e.1 ≤ 64
def WS (st : List (Nat × Nat × Nat)) (M : zMem) : Prop := M.1 47 27 = iI (st.length : Int) ∧ ∀ (j : Nat) (e : Nat × Nat × Nat), st[j]? = some e → M.1 61 (st.length - 1 - j) = iI (e.2.1 : Int) ∧ M.1 62 (st.length - 1 - j) = iI (e.2.2 : Int) ∧ okP (st.length - 1 - j) e
def wSet (c k : Nat) : Prop := c = 61 ∨ c = 62 ∨ (c = 47 ∧ k = 27)
def mSet (c k : Nat) : Prop := (57 ≤ c ∧ c ≤ 62) ∨ (c = 47 ∧ (k = 19 ∨ k = 27))
theorem MR.fs {l : List Ev} {M M' : zMem} {S : Nat → Nat → Prop} (h : MR l M) (hf : fs S M M') (h1 : ¬ S 47 19) (h2 : ∀ c k, 57 ≤ c → c ≤ 60 → ¬ S c k) : MR l M' := by
  refine ⟨(hf.2 _ _ h1).trans h.1, h.2.1, fun k e hk => ?_⟩
  obtain ⟨a, b, c, d⟩ := h.2.2 k e hk
  exact ⟨(hf.2 _ _ (h2 57 k (by omega) (by omega))).trans a, (hf.2 _ _ (h2 58 k (by omega) (by omega))).trans b, (hf.2 _ _ (h2 59 k (by omega) (by omega))).trans c, (hf.2 _ _ (h2 60 k (by omega) (by omega))).trans d⟩
theorem WS.fs {st : List (Nat × Nat × Nat)} {M M' : zMem} {S : Nat → Nat → Prop} (h : WS st M) (hf : fs S M M') (h1 : ¬ S 47 27) (h2 : ∀ c k, c = 61 ∨ c = 62 → ¬ S c k) : WS st M' := by
  refine ⟨(hf.2 _ _ h1).trans h.1, fun j e hj => ?_⟩
  obtain ⟨a, b, c⟩ := h.2 j e hj
  exact ⟨(hf.2 _ _ (h2 _ _ (Or.inl rfl))).trans a, (hf.2 _ _ (h2 _ _ (Or.inr rfl))).trans b, c⟩
theorem RLd.fs {p : Nat → Int} {a : Nat} {M M' : zMem} {S : Nat → Nat → Prop} (h : RLd p a M) (hf : fs S M M') (h1 : ∀ k, ¬ S 54 k) : RLd p a M' := ⟨h.1, h.2.1, fun m i ax a1 a2 a3 a4 => (hf.2 _ _ (h1 _)).trans (h.2.2 m i ax a1 a2 a3 a4)⟩
theorem t_X8_waits {N d m n : Nat} {st : List (Nat × Nat × Nat)} {M : zMem} {Q : zMem → Prop} (hW : WS st M) (ho : okP st.length (d, m, n)) (hQ : ∀ M', fs wSet M M' → WS ((d, m, n) :: st) M' → Q M') : f_X8_waits N (iI m) (iI n) M Q := by
  unfold f_X8_waits
  have hl : st.length ≤ 15 := by have := ho.1; omega
  rw [hW.1]
  simp (disch := omega) only [zst_iI, iI_m1, iI_0, iI_1, iI_2, iI_3, iI_4, iI_5, iI_6, iI_7, iI_8, iI_9, iI_10, iI_11, iI_12, iI_13, iI_16, iI_18, iI_20, iI_24, iI_31, iI_32, iI_33, iI_36, iI_48, iI_57, iI_59, iI_63, iI_64, iI_97, iI_100, iI_101, iI_130, iI_255, iI_256, iI_512, iI_1000, iI_1009, iI_2000, iI_2048, iI_32768, iI_2147483647, iI_add, iI_sub, iI_mul, iI_neg, iI_lt, iI_le, iI_eq, iI_in]
  rw [show ((st.length : Nat) : Int).toNat = st.length by omega]
  refine ⟨by omega, fun M1 g1 => ?_⟩
  have q1 : M1.1 47 27 = iI (st.length : Int) := by subst g1; rw [zwI_1, if_neg (by omega)]; exact hW.1
  rw [q1]
  simp (disch := omega) only [zst_iI, iI_m1, iI_0, iI_1, iI_2, iI_3, iI_4, iI_5, iI_6, iI_7, iI_8, iI_9, iI_10, iI_11, iI_12, iI_13, iI_16, iI_18, iI_20, iI_24, iI_31, iI_32, iI_33, iI_36, iI_48, iI_57, iI_59, iI_63, iI_64, iI_97, iI_100, iI_101, iI_130, iI_255, iI_256, iI_512, iI_1000, iI_1009, iI_2000, iI_2048, iI_32768, iI_2147483647, iI_add, iI_sub, iI_mul, iI_neg, iI_lt, iI_le, iI_eq, iI_in]
  rw [show ((st.length : Nat) : Int).toNat = st.length by omega]
  refine ⟨by omega, fun M2 g2 M3 g3 => ?_⟩
  have q2 : M2.1 47 27 = iI (st.length : Int) := by subst g2; rw [zwI_1, if_neg (by omega)]; exact q1
  rw [q2] at g3
  simp (disch := omega) only [iI_m1, iI_0, iI_1, iI_2, iI_3, iI_4, iI_5, iI_6, iI_7, iI_8, iI_9, iI_10, iI_11, iI_12, iI_13, iI_16, iI_18, iI_20, iI_24, iI_31, iI_32, iI_33, iI_36, iI_48, iI_57, iI_59, iI_63, iI_64, iI_97, iI_100, iI_101, iI_130, iI_255, iI_256, iI_512, iI_1000, iI_1009, iI_2000, iI_2048, iI_32768, iI_2147483647, iI_add, iI_sub, iI_mul, iI_neg, iI_lt, iI_le, iI_eq, iI_in] at g3
  refine hQ M3 ?_ ⟨?_, ?_⟩
  · subst g1; subst g2; subst g3
    exact ((fs_wI (Or.inl rfl)).tr (fs_wI (Or.inr (Or.inl rfl)))).tr (fs_wI (Or.inr (Or.inr ⟨rfl, rfl⟩)))
  · subst g3
    rw [zwI_1, if_pos ⟨rfl, rfl⟩]
    congr 1
  · intro j e hj
    cases j with
    | zero =>
      simp only [List.getElem?_cons_zero, Option.some.injEq] at hj
      subst hj
      rw [show ((d, m, n) :: st).length - 1 - 0 = st.length by simp]
      subst g1; subst g2; subst g3
      simp only [zwI_1]
      refine ⟨?_, ?_, ho⟩
      · repeat rw [if_neg (by omega)]
        rw [if_pos (by first | omega | exact ⟨trivial, trivial⟩)]
      · repeat rw [if_neg (by omega)]
        rw [if_pos (by first | omega | exact ⟨trivial, trivial⟩)]
    | succ j =>
      rw [List.getElem?_cons_succ] at hj
      have hjl := (List.getElem?_eq_some_iff.mp hj).1
      obtain ⟨a, b, c⟩ := hW.2 j e hj
      rw [show ((d, m, n) :: st).length - 1 - (j + 1) = st.length - 1 - j by simp; omega]
      subst g1; subst g2; subst g3
      simp only [zwI_1]
      refine ⟨?_, ?_, c⟩
      · repeat rw [if_neg (by omega)]
        exact a
      · repeat rw [if_neg (by omega)]
        exact b
theorem dpt_of {d m : Nat} (hd : d ≤ 5) (h1 : 32 ≤ m * 2 ^ d) (h2 : (m + 1) * 2 ^ d ≤ 64) : dpt m = 5 - d ∧ 1 ≤ m ∧ m < 64 := by
  rcases (show d = 0 ∨ d = 1 ∨ d = 2 ∨ d = 3 ∨ d = 4 ∨ d = 5 by omega) with rfl | rfl | rfl | rfl | rfl | rfl <;> simp at h1 h2 <;> unfold dpt <;> refine ⟨?_, by omega, by omega⟩ <;> repeat' split
  all_goals omega
theorem t_X8_isTooMany_b92 {N m n : Nat} {c : Bool} {l : List Ev} {M : zMem} {Q : Int32 → zMem → Prop} (hM : MR l M) (hQ1 : l.length = 100 → Q (iI 1) M) (hQ0 : ∀ M', fs (fun c k => (57 ≤ c ∧ c ≤ 60) ∨ (c = 47 ∧ k = 19)) M M' → MR (l ++ [(m, n, c)]) M' → Q (iI 0) M') : f_X8_isTooMany_b92 N (iI m) (iI n) (iI (bI c)) M Q := by
  unfold f_X8_isTooMany_b92
  have hl := hM.2.1
  rw [hM.1, nar_b]
  refine ⟨fun c0 => ?_, fun c0 => ?_⟩
  · simp (disch := omega) only [iI_m1, iI_0, iI_1, iI_2, iI_3, iI_4, iI_5, iI_6, iI_7, iI_8, iI_9, iI_10, iI_11, iI_12, iI_13, iI_16, iI_18, iI_20, iI_24, iI_31, iI_32, iI_33, iI_36, iI_48, iI_57, iI_59, iI_63, iI_64, iI_97, iI_100, iI_101, iI_130, iI_255, iI_256, iI_512, iI_1000, iI_1009, iI_2000, iI_2048, iI_32768, iI_2147483647, iI_add, iI_sub, iI_mul, iI_neg, iI_lt, iI_le, iI_eq, iI_in] at c0
    simp (disch := omega) only [zst_iI, iI_m1, iI_0, iI_1, iI_2, iI_3, iI_4, iI_5, iI_6, iI_7, iI_8, iI_9, iI_10, iI_11, iI_12, iI_13, iI_16, iI_18, iI_20, iI_24, iI_31, iI_32, iI_33, iI_36, iI_48, iI_57, iI_59, iI_63, iI_64, iI_97, iI_100, iI_101, iI_130, iI_255, iI_256, iI_512, iI_1000, iI_1009, iI_2000, iI_2048, iI_32768, iI_2147483647, iI_add, iI_sub, iI_mul, iI_neg, iI_lt, iI_le, iI_eq, iI_in]
    rw [show ((l.length : Nat) : Int).toNat = l.length by omega]
    refine ⟨by omega, fun M5 g5 => ?_⟩
    have q5 : M5.1 47 19 = iI (l.length : Int) := by subst g5; rw [zwI_1, if_neg (by omega)]; exact hM.1
    rw [q5]
    simp (disch := omega) only [zst_iI, iI_m1, iI_0, iI_1, iI_2, iI_3, iI_4, iI_5, iI_6, iI_7, iI_8, iI_9, iI_10, iI_11, iI_12, iI_13, iI_16, iI_18, iI_20, iI_24, iI_31, iI_32, iI_33, iI_36, iI_48, iI_57, iI_59, iI_63, iI_64, iI_97, iI_100, iI_101, iI_130, iI_255, iI_256, iI_512, iI_1000, iI_1009, iI_2000, iI_2048, iI_32768, iI_2147483647, iI_add, iI_sub, iI_mul, iI_neg, iI_lt, iI_le, iI_eq, iI_in]
    rw [show ((l.length : Nat) : Int).toNat = l.length by omega]
    refine ⟨by omega, fun M6 g6 => ?_⟩
    have q6 : M6.1 47 19 = iI (l.length : Int) := by subst g6; rw [zwI_1, if_neg (by omega)]; exact q5
    rw [q6]
    simp (disch := omega) only [zst_iI, iI_m1, iI_0, iI_1, iI_2, iI_3, iI_4, iI_5, iI_6, iI_7, iI_8, iI_9, iI_10, iI_11, iI_12, iI_13, iI_16, iI_18, iI_20, iI_24, iI_31, iI_32, iI_33, iI_36, iI_48, iI_57, iI_59, iI_63, iI_64, iI_97, iI_100, iI_101, iI_130, iI_255, iI_256, iI_512, iI_1000, iI_1009, iI_2000, iI_2048, iI_32768, iI_2147483647, iI_add, iI_sub, iI_mul, iI_neg, iI_lt, iI_le, iI_eq, iI_in]
    rw [show ((l.length : Nat) : Int).toNat = l.length by omega]
    refine ⟨by omega, fun M7 g7 => ?_⟩
    have q7 : M7.1 47 19 = iI (l.length : Int) := by subst g7; rw [zwI_1, if_neg (by omega)]; exact q6
    rw [q7]
    simp (disch := omega) only [zst_iI, iI_m1, iI_0, iI_1, iI_2, iI_3, iI_4, iI_5, iI_6, iI_7, iI_8, iI_9, iI_10, iI_11, iI_12, iI_13, iI_16, iI_18, iI_20, iI_24, iI_31, iI_32, iI_33, iI_36, iI_48, iI_57, iI_59, iI_63, iI_64, iI_97, iI_100, iI_101, iI_130, iI_255, iI_256, iI_512, iI_1000, iI_1009, iI_2000, iI_2048, iI_32768, iI_2147483647, iI_add, iI_sub, iI_mul, iI_neg, iI_lt, iI_le, iI_eq, iI_in]
    rw [show ((l.length : Nat) : Int).toNat = l.length by omega]
    refine ⟨by omega, fun M8 g8 M9 g9 => ?_⟩
    have q8 : M8.1 47 19 = iI (l.length : Int) := by subst g8; rw [zwI_1, if_neg (by omega)]; exact q7
    rw [q8] at g9
    simp (disch := omega) only [iI_m1, iI_0, iI_1, iI_2, iI_3, iI_4, iI_5, iI_6, iI_7, iI_8, iI_9, iI_10, iI_11, iI_12, iI_13, iI_16, iI_18, iI_20, iI_24, iI_31, iI_32, iI_33, iI_36, iI_48, iI_57, iI_59, iI_63, iI_64, iI_97, iI_100, iI_101, iI_130, iI_255, iI_256, iI_512, iI_1000, iI_1009, iI_2000, iI_2048, iI_32768, iI_2147483647, iI_add, iI_sub, iI_mul, iI_neg, iI_lt, iI_le, iI_eq, iI_in] at g9
    refine hQ0 M9 ?_ ⟨?_, ?_, ?_⟩
    · subst g5; subst g6; subst g7; subst g8; subst g9
      exact ((((fs_wI (Or.inl (by decide))).tr (fs_wI (Or.inl (by decide)))).tr (fs_wI (Or.inl (by decide)))).tr (fs_wI (Or.inl (by decide)))).tr (fs_wI (Or.inr ⟨rfl, rfl⟩))
    · subst g9
      rw [zwI_1, if_pos ⟨rfl, rfl⟩, List.length_append]
      congr 1
    · rw [List.length_append]; simp; omega
    · intro k e hk
      by_cases hkl : k < l.length
      · rw [List.getElem?_append_left hkl] at hk
        obtain ⟨x1, x2, x3, x4⟩ := hM.2.2 k e hk
        subst g5; subst g6; subst g7; subst g8; subst g9
        simp only [zwI_1]
        refine ⟨?_, ?_, ?_, ?_⟩
        · repeat rw [if_neg (by omega)]
          exact x1
        · repeat rw [if_neg (by omega)]
          exact x2
        · repeat rw [if_neg (by omega)]
          exact x3
        · repeat rw [if_neg (by omega)]
          exact x4
      · have hkl2 : k = l.length := by
          have := (List.getElem?_eq_some_iff.mp hk).1
          rw [List.length_append] at this
          simp at this
          omega
        subst hkl2
        rw [List.getElem?_append_right (Nat.le_refl _), Nat.sub_self] at hk
        simp only [List.getElem?_cons_zero, Option.some.injEq] at hk
        subst hk
        subst g5; subst g6; subst g7; subst g8; subst g9
        simp only [zwI_1]
        refine ⟨?_, ?_, ?_, ?_⟩
        · repeat rw [if_neg (by omega)]
          rw [if_pos (by first | omega | exact ⟨trivial, trivial⟩)]
        · repeat rw [if_neg (by omega)]
          rw [if_pos (by first | omega | exact ⟨trivial, trivial⟩)]
        · repeat rw [if_neg (by omega)]
          rw [if_pos (by first | omega | exact ⟨trivial, trivial⟩)]
        · repeat rw [if_neg (by omega)]
          rw [if_pos (by first | omega | exact ⟨trivial, trivial⟩)]
  · simp (disch := omega) only [iI_m1, iI_0, iI_1, iI_2, iI_3, iI_4, iI_5, iI_6, iI_7, iI_8, iI_9, iI_10, iI_11, iI_12, iI_13, iI_16, iI_18, iI_20, iI_24, iI_31, iI_32, iI_33, iI_36, iI_48, iI_57, iI_59, iI_63, iI_64, iI_97, iI_100, iI_101, iI_130, iI_255, iI_256, iI_512, iI_1000, iI_1009, iI_2000, iI_2048, iI_32768, iI_2147483647, iI_add, iI_sub, iI_mul, iI_neg, iI_lt, iI_le, iI_eq, iI_in] at c0
    exact hQ1 (by omega)
noncomputable def fm (p q : Nat → Int) (st : List (Nat × Nat × Nat)) : List Ev := st.flatMap (fun e => mts p q e.1 e.2.1 e.2.2)
/-- one pair that waits is looked at: st was the rest of the row -/
theorem t_X8_isTooMany {N a b d m n : Nat} {p q : Nat → Int} {l : List Ev} {st : List (Nat × Nat × Nat)} {M : zMem} {Q : Int32 → zMem → Prop} (hN : 100 ≤ N) (hA : RLd p a M) (hB : RLd q b M) (hM : MR l M) (hW : WS st M) (ho : okP st.length (d, m, n)) (hQ1 : l.length = 100 → mts p q d m n ≠ [] → Q (iI 1) M)
    (hQ0 : ∀ M' l' st', fs mSet M M' → MR l' M' → WS st' M' → (st' = st ∨ ∃ d', d = d' + 1 ∧ st' = (d', 2 * m, 2 * n) :: (d', 2 * m, 2 * n + 1) :: (d', 2 * m + 1, 2 * n) :: (d', 2 * m + 1, 2 * n + 1) :: st) → l' ++ fm p q st' = l ++ (mts p q d m n ++ fm p q st) → Q (iI 0) M') : f_X8_isTooMany N (iI a) (iI m) (iI b) (iI n) M Q := by
  unfold f_X8_isTooMany
  obtain ⟨o1, o2, o3, o4, o5, o6, o7⟩ := ho
  simp only at o1 o2 o3 o4 o5 o6 o7
  have hd : d ≤ 5 := by omega
  obtain ⟨dm, m1, m64⟩ := dpt_of hd o4 o5
  obtain ⟨dn, n1, n64⟩ := dpt_of hd o6 o7
  have hap := apt_in p m q n
  refine t_X8_apartOf hN hA hB m1 m64 n1 n64 ?_
  refine ⟨fun c => ?_, fun c => ?_⟩
  · simp (disch := omega) only [iI_m1, iI_0, iI_1, iI_2, iI_3, iI_4, iI_5, iI_6, iI_7, iI_8, iI_9, iI_10, iI_11, iI_12, iI_13, iI_16, iI_18, iI_20, iI_24, iI_31, iI_32, iI_33, iI_36, iI_48, iI_57, iI_59, iI_63, iI_64, iI_97, iI_100, iI_101, iI_130, iI_255, iI_256, iI_512, iI_1000, iI_1009, iI_2000, iI_2048, iI_32768, iI_2147483647, iI_add, iI_sub, iI_mul, iI_neg, iI_lt, iI_le, iI_eq, iI_in] at c
    have put : ∀ cc : Bool, mts p q d m n = [(m, n, cc)] → f_X8_isTooMany_b92 N (iI m) (iI n) (iI (bI cc)) M Q := by
      intro cc hcc
      refine t_X8_isTooMany_b92 hM (fun h => hQ1 h (by rw [hcc]; simp)) ?_
      intro M' hf hM'
      refine hQ0 M' _ st (hf.wide (fun c k h => ?_)) hM' (hW.fs hf (by omega) (fun c k h => by omega)) (Or.inl rfl) ?_
      · unfold mSet; omega
      · rw [hcc, List.append_assoc]
    refine t_X8_areCrossed hN hA hB m1 m64 n1 n64 (fun k => ?_) (fun k => ?_)
    · refine ⟨fun _ => ?_, fun e => absurd e (by decide)⟩
      refine put true ?_
      cases d with
      | zero => unfold mts; rw [ifp_t c, ifp_t k]
      | succ d => unfold mts; rw [ifp_t c, ifp_t k]
    · refine ⟨fun e => absurd rfl e, fun _ => ?_⟩
      refine t_X8_depth hN m64 ?_
      rw [dm]
      refine ⟨fun c2 => ?_, fun c2 => ?_⟩
      · simp (disch := omega) only [iI_m1, iI_0, iI_1, iI_2, iI_3, iI_4, iI_5, iI_6, iI_7, iI_8, iI_9, iI_10, iI_11, iI_12, iI_13, iI_16, iI_18, iI_20, iI_24, iI_31, iI_32, iI_33, iI_36, iI_48, iI_57, iI_59, iI_63, iI_64, iI_97, iI_100, iI_101, iI_130, iI_255, iI_256, iI_512, iI_1000, iI_1009, iI_2000, iI_2048, iI_32768, iI_2147483647, iI_add, iI_sub, iI_mul, iI_neg, iI_lt, iI_le, iI_eq, iI_in] at c2
        obtain rfl : d = 0 := by omega
        refine put false ?_
        unfold mts; rw [ifp_t c, ifp_f k]
      · simp (disch := omega) only [iI_m1, iI_0, iI_1, iI_2, iI_3, iI_4, iI_5, iI_6, iI_7, iI_8, iI_9, iI_10, iI_11, iI_12, iI_13, iI_16, iI_18, iI_20, iI_24, iI_31, iI_32, iI_33, iI_36, iI_48, iI_57, iI_59, iI_63, iI_64, iI_97, iI_100, iI_101, iI_130, iI_255, iI_256, iI_512, iI_1000, iI_1009, iI_2000, iI_2048, iI_32768, iI_2147483647, iI_add, iI_sub, iI_mul, iI_neg, iI_lt, iI_le, iI_eq, iI_in] at c2
        obtain ⟨d', rfl⟩ : ∃ d', d = d' + 1 := ⟨d - 1, by omega⟩
        have p2 : 2 ^ (d' + 1) = 2 * 2 ^ d' := by rw [Nat.pow_succ]; omega
        rw [p2] at o4 o5 o6 o7
        have ee1 : (2 : Int32) * iI (m : Int) + 1 = iI ((2 * m + 1 : Nat) : Int) := by rw [iI_2, iI_1, iI_mul, iI_add]; congr 1 <;> omega
        have ee2 : (2 : Int32) * iI (n : Int) + 1 = iI ((2 * n + 1 : Nat) : Int) := by rw [iI_2, iI_1, iI_mul, iI_add]; congr 1 <;> omega
        have ee3 : (2 : Int32) * iI (m : Int) = iI ((2 * m : Nat) : Int) := by rw [iI_2, iI_mul]; congr 1 <;> omega
        have ee4 : (2 : Int32) * iI (n : Int) = iI ((2 * n : Nat) : Int) := by rw [iI_2, iI_mul]; congr 1 <;> omega
        rw [ee1, ee2, ee3, ee4]
        have gA : ∀ x i, i < 2 → 32 ≤ x * (2 * 2 ^ d') → 32 ≤ (2 * x + i) * 2 ^ d' := by
          intro x i hi hx
          refine Nat.le_trans hx ?_
          rw [← Nat.mul_assoc, Nat.mul_comm x 2]
          exact Nat.mul_le_mul_right _ (by omega)
        have gB : ∀ x i, i < 2 → (x + 1) * (2 * 2 ^ d') ≤ 64 → (2 * x + i + 1) * 2 ^ d' ≤ 64 := by
          intro x i hi hx
          refine Nat.le_trans ?_ hx
          rw [← Nat.mul_assoc]
          exact Nat.mul_le_mul_right _ (by omega)
        have ok : ∀ (t i j : Nat), t ≤ 3 → i < 2 → j < 2 → okP (st.length + t) (d', 2 * m + i, 2 * n + j) := fun t i j ht hi hj => ⟨by simp only; omega, by simp only; omega, by simp only; omega, gA m i hi o4, gB m i hi o5, gA n j hj o6, gB n j hj o7⟩
        refine t_X8_waits (d := d') hW (ok 0 1 1 (by decide) (by decide) (by decide)) ?_
        intro M1 f1 w1
        refine t_X8_waits (d := d') w1 (ok 1 1 0 (by decide) (by decide) (by decide)) ?_
        intro M2 f2 w2
        refine t_X8_waits (d := d') w2 (ok 2 0 1 (by decide) (by decide) (by decide)) ?_
        intro M3 f3 w3
        refine t_X8_waits (d := d') w3 (ok 3 0 0 (by decide) (by decide) (by decide)) ?_
        intro M4 f4 w4
        have f14 := ((f1.tr f2).tr f3).tr f4
        refine hQ0 M4 l _ (f14.wide (fun c k h => ?_)) (hM.fs f14 (by unfold wSet; omega) (fun c k h1 h2 => by unfold wSet; omega)) w4 (Or.inr ⟨d', rfl, rfl⟩) ?_
        · unfold wSet at h; unfold mSet; omega
        · rw [show mts p q (d' + 1) m n = mts p q d' (2 * m) (2 * n) ++ mts p q d' (2 * m) (2 * n + 1) ++ mts p q d' (2 * m + 1) (2 * n) ++ mts p q d' (2 * m + 1) (2 * n + 1) by
            rw [show mts p q (d' + 1) m n = ifp (apt p m q n = 0) (ifp (cro p m q n) [(m, n, true)] (mts p q d' (2 * m) (2 * n) ++ mts p q d' (2 * m) (2 * n + 1) ++ mts p q d' (2 * m + 1) (2 * n) ++ mts p q d' (2 * m + 1) (2 * n + 1))) [] from rfl, ifp_t c, ifp_f k]]
          simp [fm]
  · simp (disch := omega) only [iI_m1, iI_0, iI_1, iI_2, iI_3, iI_4, iI_5, iI_6, iI_7, iI_8, iI_9, iI_10, iI_11, iI_12, iI_13, iI_16, iI_18, iI_20, iI_24, iI_31, iI_32, iI_33, iI_36, iI_48, iI_57, iI_59, iI_63, iI_64, iI_97, iI_100, iI_101, iI_130, iI_255, iI_256, iI_512, iI_1000, iI_1009, iI_2000, iI_2048, iI_32768, iI_2147483647, iI_add, iI_sub, iI_mul, iI_neg, iI_lt, iI_le, iI_eq, iI_in] at c
    refine hQ0 M l st fs.rf hM hW (Or.inl rfl) ?_
    rw [show mts p q d m n = [] by cases d with
      | zero => unfold mts; rw [ifp_f c]
      | succ d => unfold mts; rw [ifp_f c]]
    rfl
