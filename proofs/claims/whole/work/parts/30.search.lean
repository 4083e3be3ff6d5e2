/-! ===== meetings as a list; the component's search ===== -/
abbrev Ev : Type := Nat × Nat × Bool
noncomputable def mts (p q : Nat → Int) : Nat → Nat → Nat → List Ev
  | 0, m, n => ifp (apt p m q n = 0) [(m, n, ifp (cro p m q n) true false)] []
  | d + 1, m, n => ifp (apt p m q n = 0) (ifp (cro p m q n) [(m, n, true)] (mts p q d (2 * m) (2 * n) ++ mts p q d (2 * m) (2 * n + 1) ++ mts p q d (2 * m + 1) (2 * n) ++ mts p q d (2 * m + 1) (2 * n + 1))) []
noncomputable def ML (p q : Nat → Int) : List Ev := mts p q 5 1 1
def bI (b : Bool) : Int := if b then 1 else 0
theorem bI_c (b : Bool) : (b = true ∧ bI b = 1) ∨ (b = false ∧ bI b = 0) := by cases b <;> decide
def MS (p q : Nat → Int) (l : List Ev) (M : zMem) : Prop := M.1 38 5 = iI ((min l.length 101 : Nat) : Int) ∧ M.1 38 6 = iI (((l.take 101).countP (fun e => e.2.2) : Nat) : Int) ∧ ∀ k e, l[k]? = some e → k < 101 → M.1 39 k = iI e.1 ∧ M.1 40 k = iI e.2.1 ∧ M.1 41 k = iI (bI e.2.2) ∧ M.1 42 k = iI (trn p e.1 q e.2.1) ∧ M.1 43 k = iI (-1)
def fzM (M M' : zMem) : Prop := fz 38 43 M M' ∧ ∀ k, k ≠ 5 → k ≠ 6 → M'.1 38 k = M.1 38 k
theorem fzM.rf {M : zMem} : fzM M M := ⟨fz.rf, fun _ _ _ => rfl⟩
theorem fzM.tr {M M1 M2 : zMem} (h1 : fzM M M1) (h2 : fzM M1 M2) : fzM M M2 := ⟨h1.1.tr h2.1, fun k a b => (h2.2 k a b).trans (h1.2 k a b)⟩
theorem MS.over {p q : Nat → Int} {l l' : List Ev} {M : zMem} (h : MS p q l M) (hl : 100 < l.length) : MS p q (l ++ l') M := by
  refine ⟨?_, ?_, ?_⟩
  · rw [h.1]
    congr 2
    rw [List.length_append]
    omega
  · rw [h.2.1, List.take_append_of_le_length (by omega)]
  · intro k e hk h1
    rw [List.getElem?_append_left (by omega)] at hk
    exact h.2.2 k e hk h1
theorem t_X3_isOver {N : Nat} {z : Int} {M : zMem} {Q : Int32 → zMem → Prop} (h : M.1 38 5 = iI z) (h1 : 0 ≤ z) (h2 : z ≤ 101) (hQ1 : 100 < z → Q (iI 1) M) (hQ0 : z ≤ 100 → Q (iI 0) M) : f_X3_isOver N M Q := by
  unfold f_X3_isOver
  rw [h]
  refine ⟨fun c => ?_, fun c => ?_⟩
  · simp (disch := omega) only [iI_m1, iI_0, iI_1, iI_2, iI_3, iI_4, iI_5, iI_6, iI_7, iI_8, iI_9, iI_10, iI_11, iI_12, iI_13, iI_16, iI_18, iI_20, iI_24, iI_31, iI_32, iI_33, iI_36, iI_48, iI_57, iI_59, iI_63, iI_64, iI_97, iI_100, iI_101, iI_130, iI_255, iI_256, iI_512, iI_1000, iI_1009, iI_2000, iI_2048, iI_32768, iI_2147483647, iI_add, iI_sub, iI_mul, iI_neg, iI_lt, iI_le, iI_eq, iI_in] at c
    exact hQ0 c
  · simp (disch := omega) only [iI_m1, iI_0, iI_1, iI_2, iI_3, iI_4, iI_5, iI_6, iI_7, iI_8, iI_9, iI_10, iI_11, iI_12, iI_13, iI_16, iI_18, iI_20, iI_24, iI_31, iI_32, iI_33, iI_36, iI_48, iI_57, iI_59, iI_63, iI_64, iI_97, iI_100, iI_101, iI_130, iI_255, iI_256, iI_512, iI_1000, iI_1009, iI_2000, iI_2048, iI_32768, iI_2147483647, iI_add, iI_sub, iI_mul, iI_neg, iI_lt, iI_le, iI_eq, iI_in] at c
    exact hQ1 (by omega)
theorem nar_b (b : Bool) : vp_nar .boolean (iI (bI b)) = iI (bI b) := by cases b <;> decide +kernel
theorem t_X3_adds {N m n : Nat} {c : Bool} {p q : Nat → Int} {l : List Ev} {M : zMem} {Q : zMem → Prop} (hM : MS p q l M) (hQ : ∀ M', fzM M M' → MS p q (l ++ [(m, n, c)]) M' → Q M') : f_X3_adds N (iI m) (iI n) (iI (trn p m q n)) (iI (bI c)) M Q := by
  unfold f_X3_adds
  refine t_X3_isOver hM.1 (by omega) (by omega) (fun h => ?_) (fun h => ?_)
  · exact ⟨fun e => absurd e (by decide), fun _ => hQ M fzM.rf (hM.over (by omega))⟩
  · refine ⟨fun _ => ?_, fun e => absurd rfl e⟩
    have hl : l.length ≤ 100 := by omega
    have hmin : min l.length 101 = l.length := by omega
    have e5 := hM.1
    rw [hmin] at e5
    have tk : l.take 101 = l := List.take_of_length_le (by omega)
    have e6 := hM.2.1
    rw [tk] at e6
    have hcp : l.countP (fun e => e.2.2) ≤ l.length := List.countP_le_length
    rw [e5, nar_b]
    simp (disch := omega) only [zst_iI, iI_m1, iI_0, iI_1, iI_2, iI_3, iI_4, iI_5, iI_6, iI_7, iI_8, iI_9, iI_10, iI_11, iI_12, iI_13, iI_16, iI_18, iI_20, iI_24, iI_31, iI_32, iI_33, iI_36, iI_48, iI_57, iI_59, iI_63, iI_64, iI_97, iI_100, iI_101, iI_130, iI_255, iI_256, iI_512, iI_1000, iI_1009, iI_2000, iI_2048, iI_32768, iI_2147483647, iI_add, iI_sub, iI_mul, iI_neg, iI_lt, iI_le, iI_eq, iI_in]
    rw [show ((l.length : Nat) : Int).toNat = l.length by omega]
    refine ⟨by omega, fun M3 g3 => ?_⟩
    have q3 : M3.1 38 5 = iI (l.length : Int) := by subst g3; rw [zwI_1, if_neg (by omega)]; exact e5
    rw [q3]
    simp (disch := omega) only [zst_iI, iI_m1, iI_0, iI_1, iI_2, iI_3, iI_4, iI_5, iI_6, iI_7, iI_8, iI_9, iI_10, iI_11, iI_12, iI_13, iI_16, iI_18, iI_20, iI_24, iI_31, iI_32, iI_33, iI_36, iI_48, iI_57, iI_59, iI_63, iI_64, iI_97, iI_100, iI_101, iI_130, iI_255, iI_256, iI_512, iI_1000, iI_1009, iI_2000, iI_2048, iI_32768, iI_2147483647, iI_add, iI_sub, iI_mul, iI_neg, iI_lt, iI_le, iI_eq, iI_in]
    rw [show ((l.length : Nat) : Int).toNat = l.length by omega]
    refine ⟨by omega, fun M4 g4 => ?_⟩
    have q4 : M4.1 38 5 = iI (l.length : Int) := by subst g4; rw [zwI_1, if_neg (by omega)]; exact q3
    rw [q4]
    simp (disch := omega) only [zst_iI, iI_m1, iI_0, iI_1, iI_2, iI_3, iI_4, iI_5, iI_6, iI_7, iI_8, iI_9, iI_10, iI_11, iI_12, iI_13, iI_16, iI_18, iI_20, iI_24, iI_31, iI_32, iI_33, iI_36, iI_48, iI_57, iI_59, iI_63, iI_64, iI_97, iI_100, iI_101, iI_130, iI_255, iI_256, iI_512, iI_1000, iI_1009, iI_2000, iI_2048, iI_32768, iI_2147483647, iI_add, iI_sub, iI_mul, iI_neg, iI_lt, iI_le, iI_eq, iI_in]
    rw [show ((l.length : Nat) : Int).toNat = l.length by omega]
    refine ⟨by omega, fun M5 g5 => ?_⟩
    have q5 : M5.1 38 5 = iI (l.length : Int) := by subst g5; rw [zwI_1, if_neg (by omega)]; exact q4
    rw [q5]
    simp (disch := omega) only [zst_iI, iI_m1, iI_0, iI_1, iI_2, iI_3, iI_4, iI_5, iI_6, iI_7, iI_8, iI_9, iI_10, iI_11, iI_12, iI_13, iI_16, iI_18, iI_20, iI_24, iI_31, iI_32, iI_33, iI_36, iI_48, iI_57, iI_59, iI_63, iI_64, iI_97, iI_100, iI_101, iI_130, iI_255, iI_256, iI_512, iI_1000, iI_1009, iI_2000, iI_2048, iI_32768, iI_2147483647, iI_add, iI_sub, iI_mul, iI_neg, iI_lt, iI_le, iI_eq, iI_in]
    rw [show ((l.length : Nat) : Int).toNat = l.length by omega]
    refine ⟨by omega, fun M6 g6 => ?_⟩
    have q6 : M6.1 38 5 = iI (l.length : Int) := by subst g6; rw [zwI_1, if_neg (by omega)]; exact q5
    rw [q6]
    simp (disch := omega) only [zst_iI, iI_m1, iI_0, iI_1, iI_2, iI_3, iI_4, iI_5, iI_6, iI_7, iI_8, iI_9, iI_10, iI_11, iI_12, iI_13, iI_16, iI_18, iI_20, iI_24, iI_31, iI_32, iI_33, iI_36, iI_48, iI_57, iI_59, iI_63, iI_64, iI_97, iI_100, iI_101, iI_130, iI_255, iI_256, iI_512, iI_1000, iI_1009, iI_2000, iI_2048, iI_32768, iI_2147483647, iI_add, iI_sub, iI_mul, iI_neg, iI_lt, iI_le, iI_eq, iI_in]
    rw [show ((l.length : Nat) : Int).toNat = l.length by omega]
    refine ⟨by omega, fun M7 g7 M8 g8 => ?_⟩
    have q7 : M7.1 38 5 = iI (l.length : Int) := by subst g7; rw [zwI_1, if_neg (by omega)]; exact q6
    rw [q7] at g8
    simp (disch := omega) only [iI_m1, iI_0, iI_1, iI_2, iI_3, iI_4, iI_5, iI_6, iI_7, iI_8, iI_9, iI_10, iI_11, iI_12, iI_13, iI_16, iI_18, iI_20, iI_24, iI_31, iI_32, iI_33, iI_36, iI_48, iI_57, iI_59, iI_63, iI_64, iI_97, iI_100, iI_101, iI_130, iI_255, iI_256, iI_512, iI_1000, iI_1009, iI_2000, iI_2048, iI_32768, iI_2147483647, iI_add, iI_sub, iI_mul, iI_neg, iI_lt, iI_le, iI_eq, iI_in] at g8
    have f8 : fzM M M8 := by
      subst g3; subst g4; subst g5; subst g6; subst g7; subst g8
      refine ⟨(((((fz_wI (by omega) (by omega)).tr (fz_wI (by omega) (by omega))).tr (fz_wI (by omega) (by omega))).tr (fz_wI (by omega) (by omega))).tr (fz_wI (by omega) (by omega))).tr (fz_wI (by omega) (by omega)), ?_⟩
      intro k h1 h2
      simp only [zwI_1]
      repeat rw [if_neg (by omega)]
    have r6 : M8.1 38 6 = iI (((l.countP (fun e => e.2.2) : Nat)) : Int) := by
      subst g3; subst g4; subst g5; subst g6; subst g7; subst g8
      simp only [zwI_1]
      repeat rw [if_neg (by omega)]
      exact e6
    have r5 : M8.1 38 5 = iI ((l.length : Int) + 1) := by subst g8; rw [zwI_1, if_pos ⟨rfl, rfl⟩]
    have rest : ∀ k e, (l ++ [(m, n, c)])[k]? = some e → k < 101 → M8.1 39 k = iI e.1 ∧ M8.1 40 k = iI e.2.1 ∧ M8.1 41 k = iI (bI e.2.2) ∧ M8.1 42 k = iI (trn p e.1 q e.2.1) ∧ M8.1 43 k = iI (-1) := by
      intro k e hk h1
      subst g3; subst g4; subst g5; subst g6; subst g7; subst g8
      by_cases hkl : k < l.length
      · rw [List.getElem?_append_left hkl] at hk
        obtain ⟨x1, x2, x3, x4, x5⟩ := hM.2.2 k e hk h1
        simp only [zwI_1]
        refine ⟨?_, ?_, ?_, ?_, ?_⟩
        · repeat rw [if_neg (by omega)]
          exact x1
        · repeat rw [if_neg (by omega)]
          exact x2
        · repeat rw [if_neg (by omega)]
          exact x3
        · repeat rw [if_neg (by omega)]
          exact x4
        · repeat rw [if_neg (by omega)]
          exact x5
      · have hkl2 : k = l.length := by
          have := (List.getElem?_eq_some_iff.mp hk).1
          rw [List.length_append] at this
          simp at this
          omega
        subst hkl2
        rw [List.getElem?_append_right (Nat.le_refl _), Nat.sub_self] at hk
        simp only [List.getElem?_cons_zero, Option.some.injEq] at hk
        subst hk
        simp only [zwI_1]
        refine ⟨?_, ?_, ?_, ?_, ?_⟩
        · repeat rw [if_neg (by omega)]
          rw [if_pos (by first | omega | exact ⟨trivial, trivial⟩)]
        · repeat rw [if_neg (by omega)]
          rw [if_pos (by first | omega | exact ⟨trivial, trivial⟩)]
        · repeat rw [if_neg (by omega)]
          rw [if_pos (by first | omega | exact ⟨trivial, trivial⟩)]
        · repeat rw [if_neg (by omega)]
          rw [if_pos (by first | omega | exact ⟨trivial, trivial⟩)]
        · repeat rw [if_neg (by omega)]
          rw [if_pos (by first | omega | exact ⟨trivial, trivial⟩)]
    have l1 : ((min (l ++ [(m, n, c)]).length 101 : Nat) : Int) = (l.length : Int) + 1 := by
      rw [List.length_append]
      simp
      omega
    have tk2 : (l ++ [(m, n, c)]).take 101 = l ++ [(m, n, c)] := List.take_of_length_le (by rw [List.length_append]; simp; omega)
    refine ⟨fun c0 => ?_, fun c0 M9 g9 => ?_⟩
    · rcases bI_c c with hc | hc
      · rw [hc.2] at c0; exact absurd c0 (by decide)
      · refine hQ M8 f8 ⟨by rw [r5, l1], ?_, rest⟩
        rw [r6, tk2, List.countP_append, hc.1]
        simp
    · rcases bI_c c with hc | hc
      · rw [r6] at g9
        simp (disch := omega) only [iI_m1, iI_0, iI_1, iI_2, iI_3, iI_4, iI_5, iI_6, iI_7, iI_8, iI_9, iI_10, iI_11, iI_12, iI_13, iI_16, iI_18, iI_20, iI_24, iI_31, iI_32, iI_33, iI_36, iI_48, iI_57, iI_59, iI_63, iI_64, iI_97, iI_100, iI_101, iI_130, iI_255, iI_256, iI_512, iI_1000, iI_1009, iI_2000, iI_2048, iI_32768, iI_2147483647, iI_add, iI_sub, iI_mul, iI_neg, iI_lt, iI_le, iI_eq, iI_in] at g9
        refine hQ M9 (f8.tr ?_) ⟨?_, ?_, ?_⟩
        · subst g9
          refine ⟨fz_wI (by omega) (by omega), ?_⟩
          intro k h1 h2
          rw [zwI_1, if_neg (by omega)]
        · subst g9
          rw [zwI_1, if_neg (by omega), r5, l1]
        · subst g9
          rw [zwI_1, if_pos ⟨rfl, rfl⟩, tk2, List.countP_append, hc.1]
          simp
        · intro k e hk h1
          obtain ⟨x1, x2, x3, x4, x5⟩ := rest k e hk h1
          subst g9
          simp only [zwI_1]
          refine ⟨?_, ?_, ?_, ?_, ?_⟩
          · rw [if_neg (by omega)]; exact x1
          · rw [if_neg (by omega)]; exact x2
          · rw [if_neg (by omega)]; exact x3
          · rw [if_neg (by omega)]; exact x4
          · rw [if_neg (by omega)]; exact x5
      · rw [hc.2] at c0; exact absurd rfl c0
/-- four searches one after another: the loops over i and j; S k: what holds behind k of them -/
theorem l_X3_search {N a b m n deep : Nat} {rec : Nat → Int32 → Nat → Int32 → Int32 → zMem → (zMem → Prop) → Prop} {M : zMem} {Q : zMem → Prop} (S : Nat → zMem → Prop) (hN : 100 ≤ N) (h1 : m < 64) (h2 : n < 64) (hd : deep < 6)
    (H : ∀ (i j : Nat) (M : zMem) (Q' : zMem → Prop), i < 2 → j < 2 → S (2 * i + j) M → (∀ M', S (2 * i + j + 1) M' → Q' M') → rec a (iI ((2 * m + i : Nat) : Int)) b (iI ((2 * n + j : Nat) : Int)) (iI ((deep + 1 : Nat) : Int)) M Q') (h0 : S 0 M) (h4 : ∀ M', S 4 M' → Q M') : f_X3_search_l78 N rec a (iI m) b (iI n) (iI deep) Q N (iI ((0 : Nat) : Int)) M := by
  obtain ⟨k, hk⟩ : ∃ k, N = k + 3 := ⟨N - 3, by omega⟩
  have e1 : ∀ i : Nat, (2 : Int32) * iI (m : Int) + iI (i : Int) = iI ((2 * m + i : Nat) : Int) := by intro i; rw [iI_2, iI_mul, iI_add]; congr 1 <;> omega
  have e2 : ∀ i : Nat, (2 : Int32) * iI (n : Int) + iI (i : Int) = iI ((2 * n + i : Nat) : Int) := by intro i; rw [iI_2, iI_mul, iI_add]; congr 1 <;> omega
  have e5 : iI (deep : Int) + 1 = iI ((deep + 1 : Nat) : Int) := by rw [iI_1, iI_add]; congr 1 <;> omega
  have inner : ∀ (i : Nat) (K : Int32 → zMem → Prop) (M : zMem), i < 2 → S (2 * i) M → (∀ M', S (2 * i + 2) M' → K (iI ((i + 1 : Nat) : Int)) M') → f_X3_search_l87 N rec K a (iI m) b (iI n) (iI deep) (iI i) Q N (iI ((0 : Nat) : Int)) M := by
    intro i K M hi hs hK
    suffices hh : f_X3_search_l87 N rec K a (iI m) b (iI n) (iI deep) (iI i) Q (k + 3) (iI ((0 : Nat) : Int)) M by rw [← hk] at hh; exact hh
    show f_X3_search_b87 N rec K (f_X3_search_l87 N rec K a (iI m) b (iI n) (iI deep) (iI i) Q (k + 2)) a (iI m) b (iI n) (iI deep) (iI i) (iI ((0 : Nat) : Int)) M Q
    unfold f_X3_search_b87
    refine ⟨fun c => absurd c (by decide), fun _ => ?_⟩
    rw [e1, e2, e5]
    refine H i 0 M _ hi (by decide) hs (fun M1 s1 => ?_)
    intro v g
    subst g
    show f_X3_search_b87 N rec K (f_X3_search_l87 N rec K a (iI m) b (iI n) (iI deep) (iI i) Q (k + 1)) a (iI m) b (iI n) (iI deep) (iI i) (iI ((1 : Nat) : Int)) M1 Q
    unfold f_X3_search_b87
    refine ⟨fun c => absurd c (by decide), fun _ => ?_⟩
    rw [e1, e2, e5]
    refine H i 1 M1 _ hi (by decide) s1 (fun M2 s2 => ?_)
    intro v g
    subst g
    show f_X3_search_b87 N rec K (f_X3_search_l87 N rec K a (iI m) b (iI n) (iI deep) (iI i) Q k) a (iI m) b (iI n) (iI deep) (iI i) (iI ((2 : Nat) : Int)) M2 Q
    unfold f_X3_search_b87
    refine ⟨fun _ v g => ?_, fun c => absurd (by decide) c⟩
    simp (disch := omega) only [iI_m1, iI_0, iI_1, iI_2, iI_3, iI_4, iI_5, iI_6, iI_7, iI_8, iI_9, iI_10, iI_11, iI_12, iI_13, iI_16, iI_18, iI_20, iI_24, iI_31, iI_32, iI_33, iI_36, iI_48, iI_57, iI_59, iI_63, iI_64, iI_97, iI_100, iI_101, iI_130, iI_255, iI_256, iI_512, iI_1000, iI_1009, iI_2000, iI_2048, iI_32768, iI_2147483647, iI_add, iI_sub, iI_mul, iI_neg, iI_lt, iI_le, iI_eq, iI_in] at g
    subst g
    exact hK M2 s2
  suffices hh : f_X3_search_l78 N rec a (iI m) b (iI n) (iI deep) Q (k + 3) (iI ((0 : Nat) : Int)) M by rw [← hk] at hh; exact hh
  show f_X3_search_b78 N rec (f_X3_search_l78 N rec a (iI m) b (iI n) (iI deep) Q (k + 2)) a (iI m) b (iI n) (iI deep) (iI ((0 : Nat) : Int)) M Q
  unfold f_X3_search_b78
  refine ⟨fun c => absurd c (by decide), fun _ => ?_⟩
  refine inner 0 _ M (by decide) h0 (fun M2 s2 => ?_)
  show f_X3_search_b78 N rec (f_X3_search_l78 N rec a (iI m) b (iI n) (iI deep) Q (k + 1)) a (iI m) b (iI n) (iI deep) (iI ((1 : Nat) : Int)) M2 Q
  unfold f_X3_search_b78
  refine ⟨fun c => absurd c (by decide), fun _ => ?_⟩
  refine inner 1 _ M2 (by decide) s2 (fun M4 s4 => ?_)
  show f_X3_search_b78 N rec (f_X3_search_l78 N rec a (iI m) b (iI n) (iI deep) Q k) a (iI m) b (iI n) (iI deep) (iI ((2 : Nat) : Int)) M4 Q
  unfold f_X3_search_b78
  exact ⟨fun _ => h4 M4 s4, fun c => absurd (by decide) c⟩
theorem RA.fzM {p : Nat → Int} {a : Nat} {M M' : zMem} (h : RA p a M) (hf : fzM M M') (ha : a + 5 < 38) : RA p a M' := h.fz hf.1 (by omega)
/-- the four lists of the halves -/
noncomputable def mt4 (p q : Nat → Int) (d m n : Nat) (k : Nat) : List Ev := match k with
  | 0 => mts p q d (2 * m) (2 * n)
  | 1 => mts p q d (2 * m) (2 * n + 1)
  | 2 => mts p q d (2 * m + 1) (2 * n)
  | _ => mts p q d (2 * m + 1) (2 * n + 1)
noncomputable def mtk (p q : Nat → Int) (d m n : Nat) : Nat → List Ev
  | 0 => []
  | k + 1 => mtk p q d m n k ++ mt4 p q d m n k
theorem t_X3_search {N : Nat} (hN : 100 ≤ N) {a b : Nat} {p q : Nat → Int} (ha : a + 5 < 38) (hb : b + 5 < 38) : ∀ (d f m n deep : Nat) (l : List Ev) (M : zMem) (Q : zMem → Prop), deep + d = 5 → d + 1 ≤ f → 1 ≤ m → 1 ≤ n → (m + 1) * 2 ^ d ≤ 64 → (n + 1) * 2 ^ d ≤ 64 → MS p q l M → RA p a M → RA q b M → (∀ M', fzM M M' → MS p q (l ++ mts p q d m n) M' → Q M') → f_X3_search N f a (iI m) b (iI n) (iI deep) M Q := by
  intro d
  induction d with
  | zero =>
    intro f m n deep l M Q hd hf h1 h3 h2 h4 hM hA hB hQ
    obtain ⟨f, rfl⟩ : ∃ g, f = g + 1 := ⟨f - 1, by omega⟩
    show f_X3_search_e N (f_X3_search N f) a (iI m) b (iI n) (iI deep) M Q
    unfold f_X3_search_e
    have ht := trn_in p m q n
    have hap := apt_in p m q n
    refine t_X3_isOver hM.1 (by omega) (by omega) (fun h => ?_) (fun h => ?_)
    · exact ⟨fun _ => hQ M fzM.rf (hM.over (by omega)), fun e => absurd e (by decide)⟩
    · refine ⟨fun e => absurd rfl e, fun _ => ?_⟩
      refine t_X4_whyApart hN hA hB h1 (by omega) h3 (by omega) ?_
      refine ⟨fun c => ?_, fun c => ?_⟩
      · simp (disch := omega) only [iI_m1, iI_0, iI_1, iI_2, iI_3, iI_4, iI_5, iI_6, iI_7, iI_8, iI_9, iI_10, iI_11, iI_12, iI_13, iI_16, iI_18, iI_20, iI_24, iI_31, iI_32, iI_33, iI_36, iI_48, iI_57, iI_59, iI_63, iI_64, iI_97, iI_100, iI_101, iI_130, iI_255, iI_256, iI_512, iI_1000, iI_1009, iI_2000, iI_2048, iI_32768, iI_2147483647, iI_add, iI_sub, iI_mul, iI_neg, iI_lt, iI_le, iI_eq, iI_in] at c
        have add : ∀ cc : Bool, ifp (cro p m q n) true false = cc → f_X3_search_b63 N (f_X3_search N f) (iI m) (iI n) (iI (trn p m q n)) (iI (bI cc)) M Q := by
          intro cc hcc
          unfold f_X3_search_b63
          refine t_X3_adds hM (fun M' hf hM' => hQ M' hf ?_)
          rw [show mts p q 0 m n = [(m, n, cc)] by unfold mts; rw [ifp_t c, hcc]]
          exact hM'
        refine t_X4_wayOfTurn hN hA hB h1 (by omega) h3 (by omega) ?_
        have no : ¬ cro p m q n → f_X3_search_b49 N (f_X3_search N f) a (iI m) b (iI n) (iI deep) (iI (trn p m q n)) M Q := by
          intro hcr
          unfold f_X3_search_b49 f_X3_search_b50
          refine ⟨fun e => absurd rfl e, fun _ => ⟨fun c5 => ?_, fun _ => ?_⟩⟩
          · simp (disch := omega) only [iI_m1, iI_0, iI_1, iI_2, iI_3, iI_4, iI_5, iI_6, iI_7, iI_8, iI_9, iI_10, iI_11, iI_12, iI_13, iI_16, iI_18, iI_20, iI_24, iI_31, iI_32, iI_33, iI_36, iI_48, iI_57, iI_59, iI_63, iI_64, iI_97, iI_100, iI_101, iI_130, iI_255, iI_256, iI_512, iI_1000, iI_1009, iI_2000, iI_2048, iI_32768, iI_2147483647, iI_add, iI_sub, iI_mul, iI_neg, iI_lt, iI_le, iI_eq, iI_in] at c5
            omega
          · exact add false (ifp_f hcr)
        refine ⟨fun c2 => ?_, fun c2 => ?_⟩
        · simp (disch := omega) only [iI_m1, iI_0, iI_1, iI_2, iI_3, iI_4, iI_5, iI_6, iI_7, iI_8, iI_9, iI_10, iI_11, iI_12, iI_13, iI_16, iI_18, iI_20, iI_24, iI_31, iI_32, iI_33, iI_36, iI_48, iI_57, iI_59, iI_63, iI_64, iI_97, iI_100, iI_101, iI_130, iI_255, iI_256, iI_512, iI_1000, iI_1009, iI_2000, iI_2048, iI_32768, iI_2147483647, iI_add, iI_sub, iI_mul, iI_neg, iI_lt, iI_le, iI_eq, iI_in] at c2
          exact no (fun hcr => hcr.1 c2)
        · simp (disch := omega) only [iI_m1, iI_0, iI_1, iI_2, iI_3, iI_4, iI_5, iI_6, iI_7, iI_8, iI_9, iI_10, iI_11, iI_12, iI_13, iI_16, iI_18, iI_20, iI_24, iI_31, iI_32, iI_33, iI_36, iI_48, iI_57, iI_59, iI_63, iI_64, iI_97, iI_100, iI_101, iI_130, iI_255, iI_256, iI_512, iI_1000, iI_1009, iI_2000, iI_2048, iI_32768, iI_2147483647, iI_add, iI_sub, iI_mul, iI_neg, iI_lt, iI_le, iI_eq, iI_in] at c2
          refine t_X4_endsCross hA hB h1 (by omega) h3 (by omega) (fun k => ?_) (fun k => ?_)
          · refine ⟨fun e => absurd e (by decide), fun _ => ?_⟩
            unfold f_X3_search_b50
            exact ⟨fun _ => add true (ifp_t ⟨c2, k⟩), fun e => absurd e (by decide)⟩
          · exact ⟨fun _ => no (fun hcr => k hcr.2), fun e => absurd rfl e⟩
      · simp (disch := omega) only [iI_m1, iI_0, iI_1, iI_2, iI_3, iI_4, iI_5, iI_6, iI_7, iI_8, iI_9, iI_10, iI_11, iI_12, iI_13, iI_16, iI_18, iI_20, iI_24, iI_31, iI_32, iI_33, iI_36, iI_48, iI_57, iI_59, iI_63, iI_64, iI_97, iI_100, iI_101, iI_130, iI_255, iI_256, iI_512, iI_1000, iI_1009, iI_2000, iI_2048, iI_32768, iI_2147483647, iI_add, iI_sub, iI_mul, iI_neg, iI_lt, iI_le, iI_eq, iI_in] at c
        refine hQ M fzM.rf ?_
        rw [show mts p q 0 m n = [] by unfold mts; rw [ifp_f c], List.append_nil]
        exact hM
  | succ d ih =>
    intro f m n deep l M Q hd hf h1 h3 h2 h4 hM hA hB hQ
    obtain ⟨f, rfl⟩ : ∃ g, f = g + 1 := ⟨f - 1, by omega⟩
    have p2 : 2 ^ (d + 1) = 2 * 2 ^ d := by rw [Nat.pow_succ]; omega
    have pos : 1 ≤ 2 ^ d := Nat.one_le_two_pow
    have m64 : m < 64 := by
      have := Nat.mul_le_mul_left (m + 1) (show 1 ≤ 2 ^ (d + 1) by omega)
      omega
    have n64 : n < 64 := by
      have := Nat.mul_le_mul_left (n + 1) (show 1 ≤ 2 ^ (d + 1) by omega)
      omega
    show f_X3_search_e N (f_X3_search N f) a (iI m) b (iI n) (iI deep) M Q
    unfold f_X3_search_e
    have ht := trn_in p m q n
    have hap := apt_in p m q n
    refine t_X3_isOver hM.1 (by omega) (by omega) (fun h => ?_) (fun h => ?_)
    · exact ⟨fun _ => hQ M fzM.rf (hM.over (by omega)), fun e => absurd e (by decide)⟩
    · refine ⟨fun e => absurd rfl e, fun _ => ?_⟩
      refine t_X4_whyApart hN hA hB h1 m64 h3 n64 ?_
      refine ⟨fun c => ?_, fun c => ?_⟩
      · simp (disch := omega) only [iI_m1, iI_0, iI_1, iI_2, iI_3, iI_4, iI_5, iI_6, iI_7, iI_8, iI_9, iI_10, iI_11, iI_12, iI_13, iI_16, iI_18, iI_20, iI_24, iI_31, iI_32, iI_33, iI_36, iI_48, iI_57, iI_59, iI_63, iI_64, iI_97, iI_100, iI_101, iI_130, iI_255, iI_256, iI_512, iI_1000, iI_1009, iI_2000, iI_2048, iI_32768, iI_2147483647, iI_add, iI_sub, iI_mul, iI_neg, iI_lt, iI_le, iI_eq, iI_in] at c
        refine t_X4_wayOfTurn hN hA hB h1 m64 h3 n64 ?_
        have no : ¬ cro p m q n → f_X3_search_b49 N (f_X3_search N f) a (iI m) b (iI n) (iI deep) (iI (trn p m q n)) M Q := by
          intro hcr
          unfold f_X3_search_b49 f_X3_search_b50
          refine ⟨fun e => absurd rfl e, fun _ => ⟨fun c5 => ?_, fun c5 => ?_⟩⟩
          · refine l_X3_search (fun k M' => fzM M M' ∧ MS p q (l ++ mtk p q d m n k) M') hN m64 n64 (by omega) ?_ ⟨fzM.rf, by unfold mtk; rw [List.append_nil]; exact hM⟩ ?_
            · intro i j M1 Q' hi hj hs hk
              have e1 : (2 * m + i + 1) * 2 ^ d ≤ 64 := by
                refine Nat.le_trans (Nat.mul_le_mul_right _ (show 2 * m + i + 1 ≤ 2 * (m + 1) by omega)) ?_
                rw [p2] at h2
                rw [Nat.mul_assoc, Nat.mul_left_comm]
                exact h2
              have e2 : (2 * n + j + 1) * 2 ^ d ≤ 64 := by
                refine Nat.le_trans (Nat.mul_le_mul_right _ (show 2 * n + j + 1 ≤ 2 * (n + 1) by omega)) ?_
                rw [p2] at h4
                rw [Nat.mul_assoc, Nat.mul_left_comm]
                exact h4
              refine ih f (2 * m + i) (2 * n + j) (deep + 1) _ M1 Q' (by omega) (by omega) (by omega) (by omega) e1 e2 hs.2 (hA.fzM hs.1 ha) (hB.fzM hs.1 hb) ?_
              intro M2 hf2 hM2
              refine hk M2 ⟨hs.1.tr hf2, ?_⟩
              rw [List.append_assoc] at hM2
              rcases (show i = 0 ∨ i = 1 by omega) with rfl | rfl <;> rcases (show j = 0 ∨ j = 1 by omega) with rfl | rfl <;> exact hM2
            · intro M' hs
              refine hQ M' hs.1 ?_
              have e : mts p q (d + 1) m n = mtk p q d m n 4 := by
                rw [show mts p q (d + 1) m n = ifp (apt p m q n = 0) (ifp (cro p m q n) [(m, n, true)] (mts p q d (2 * m) (2 * n) ++ mts p q d (2 * m) (2 * n + 1) ++ mts p q d (2 * m + 1) (2 * n) ++ mts p q d (2 * m + 1) (2 * n + 1))) [] from rfl, ifp_t c, ifp_f hcr]
                simp [mtk, mt4]
              rw [e]
              exact hs.2
          · simp (disch := omega) only [iI_m1, iI_0, iI_1, iI_2, iI_3, iI_4, iI_5, iI_6, iI_7, iI_8, iI_9, iI_10, iI_11, iI_12, iI_13, iI_16, iI_18, iI_20, iI_24, iI_31, iI_32, iI_33, iI_36, iI_48, iI_57, iI_59, iI_63, iI_64, iI_97, iI_100, iI_101, iI_130, iI_255, iI_256, iI_512, iI_1000, iI_1009, iI_2000, iI_2048, iI_32768, iI_2147483647, iI_add, iI_sub, iI_mul, iI_neg, iI_lt, iI_le, iI_eq, iI_in] at c5
            omega
        refine ⟨fun c2 => ?_, fun c2 => ?_⟩
        · simp (disch := omega) only [iI_m1, iI_0, iI_1, iI_2, iI_3, iI_4, iI_5, iI_6, iI_7, iI_8, iI_9, iI_10, iI_11, iI_12, iI_13, iI_16, iI_18, iI_20, iI_24, iI_31, iI_32, iI_33, iI_36, iI_48, iI_57, iI_59, iI_63, iI_64, iI_97, iI_100, iI_101, iI_130, iI_255, iI_256, iI_512, iI_1000, iI_1009, iI_2000, iI_2048, iI_32768, iI_2147483647, iI_add, iI_sub, iI_mul, iI_neg, iI_lt, iI_le, iI_eq, iI_in] at c2
          exact no (fun hcr => hcr.1 c2)
        · simp (disch := omega) only [iI_m1, iI_0, iI_1, iI_2, iI_3, iI_4, iI_5, iI_6, iI_7, iI_8, iI_9, iI_10, iI_11, iI_12, iI_13, iI_16, iI_18, iI_20, iI_24, iI_31, iI_32, iI_33, iI_36, iI_48, iI_57, iI_59, iI_63, iI_64, iI_97, iI_100, iI_101, iI_130, iI_255, iI_256, iI_512, iI_1000, iI_1009, iI_2000, iI_2048, iI_32768, iI_2147483647, iI_add, iI_sub, iI_mul, iI_neg, iI_lt, iI_le, iI_eq, iI_in] at c2
          refine t_X4_endsCross hA hB h1 m64 h3 n64 (fun k => ?_) (fun k => ?_)
          · refine ⟨fun e => absurd e (by decide), fun _ => ?_⟩
            unfold f_X3_search_b50
            refine ⟨fun _ => ?_, fun e => absurd e (by decide)⟩
            unfold f_X3_search_b63
            refine t_X3_adds (c := true) hM (fun M' hf hM' => hQ M' hf ?_)
            rw [show mts p q (d + 1) m n = [(m, n, true)] by unfold mts; rw [ifp_t c, ifp_t ⟨c2, k⟩]]
            exact hM'
          · exact ⟨fun _ => no (fun hcr => k hcr.2), fun e => absurd rfl e⟩
      · simp (disch := omega) only [iI_m1, iI_0, iI_1, iI_2, iI_3, iI_4, iI_5, iI_6, iI_7, iI_8, iI_9, iI_10, iI_11, iI_12, iI_13, iI_16, iI_18, iI_20, iI_24, iI_31, iI_32, iI_33, iI_36, iI_48, iI_57, iI_59, iI_63, iI_64, iI_97, iI_100, iI_101, iI_130, iI_255, iI_256, iI_512, iI_1000, iI_1009, iI_2000, iI_2048, iI_32768, iI_2147483647, iI_add, iI_sub, iI_mul, iI_neg, iI_lt, iI_le, iI_eq, iI_in] at c
        refine hQ M fzM.rf ?_
        rw [show mts p q (d + 1) m n = [] by unfold mts; rw [ifp_f c], List.append_nil]
        exact hM
