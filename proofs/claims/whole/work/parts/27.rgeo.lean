/-! ===== the reference's geometry ===== -/
/-- all but the places S are as before; the reference has no longs -/
def fs (S : Nat → Nat → Prop) (M M' : zMem) : Prop := M'.2 = M.2 ∧ ∀ c k, ¬ S c k → M'.1 c k = M.1 c k
theorem fs.rf {S : Nat → Nat → Prop} {M : zMem} : fs S M M := ⟨rfl, fun _ _ _ => rfl⟩
theorem fs.tr {S : Nat → Nat → Prop} {M M1 M2 : zMem} (h1 : fs S M M1) (h2 : fs S M1 M2) : fs S M M2 := ⟨h2.1.trans h1.1, fun c k h => (h2.2 c k h).trans (h1.2 c k h)⟩
theorem fs.wide {S T : Nat → Nat → Prop} {M M' : zMem} (h : fs S M M') (hST : ∀ c k, S c k → T c k) : fs T M M' := ⟨h.1, fun c k hk => h.2 c k (fun q => hk (hST c k q))⟩
theorem fs_wI {S : Nat → Nat → Prop} {M : zMem} {c k : Nat} {v : Int32} (h : S c k) : fs S M (zwI M c k v) := ⟨rfl, fun a b hb => by rw [zwI_1, if_neg]; intro e; rw [e.1, e.2] at hb; exact hb h⟩
def RLd (p : Nat → Int) (a : Nat) (M : zMem) : Prop := a < 4 ∧ pOk p ∧ ∀ m i ax, 1 ≤ m → m < 64 → i < 4 → ax < 2 → M.1 54 (8 * (64 * a + m) + 2 * i + ax) = iI (nd p m i ax)
theorem t_X8_at {N a m i ax : Nat} {p : Nat → Int} {M : zMem} {Q : Int32 → zMem → Prop} (hR : RLd p a M) (h1 : 1 ≤ m) (h2 : m < 64) (hi : i < 4) (hax : ax < 2) (hQ : Q (iI (nd p m i ax)) M) : f_X8_at N (iI a) (iI m) (iI i) (iI ax) M Q := by
  unfold f_X8_at
  have ha := hR.1
  simp (disch := omega) only [zrd_iI, iI_m1, iI_0, iI_1, iI_2, iI_3, iI_4, iI_5, iI_6, iI_7, iI_8, iI_9, iI_10, iI_11, iI_12, iI_13, iI_16, iI_18, iI_20, iI_24, iI_31, iI_32, iI_33, iI_36, iI_48, iI_57, iI_59, iI_63, iI_64, iI_97, iI_100, iI_101, iI_130, iI_255, iI_256, iI_512, iI_1000, iI_1009, iI_2000, iI_2048, iI_32768, iI_2147483647, iI_add, iI_sub, iI_mul, iI_neg, iI_lt, iI_le, iI_eq, iI_in]
  rw [show (8 * (64 * (a : Int) + (m : Int)) + 2 * (i : Int) + (ax : Int)).toNat = 8 * (64 * a + m) + 2 * i + ax by omega, hR.2.2 m i ax h1 h2 hi hax]
  exact ⟨by omega, hQ⟩
theorem t_X8_stepOf {N a m i ax : Nat} {p : Nat → Int} {M : zMem} {Q : Int32 → zMem → Prop} (hR : RLd p a M) (h1 : 1 ≤ m) (h2 : m < 64) (hi : i < 3) (hax : ax < 2) (hQ : Q (iI (nd p m (i + 1) ax - nd p m i ax)) M) : f_X8_stepOf N (iI a) (iI m) (iI i) (iI ax) M Q := by
  unfold f_X8_stepOf
  rw [iI_1, iI_add]
  refine t_X8_at (i := i + 1) hR h1 h2 (by omega) hax ?_
  refine t_X8_at hR h1 h2 (by omega) hax ?_
  rw [iI_sub]
  exact hQ
theorem t_X8_side {N a b m n i : Nat} {p q : Nat → Int} {M : zMem} {Q : Int64 → zMem → Prop} (hA : RLd p a M) (hB : RLd q b M) (h1 : 1 ≤ m) (h2 : m < 64) (h3 : 1 ≤ n) (h4 : n < 64) (hi : i < 4) (hQ : Q (lI (sd p m q n i)) M) : f_X8_side N (iI a) (iI m) (iI b) (iI n) (iI i) M Q := by
  unfold f_X8_side
  have a0 := nd_bd hA.2.1 (i := 0) (ax := 0) h1 h2 (by decide)
  have a1 := nd_bd hA.2.1 (i := 0) (ax := 1) h1 h2 (by decide)
  have b0 := nd_bd hA.2.1 (i := 3) (ax := 0) h1 h2 (by decide)
  have b1 := nd_bd hA.2.1 (i := 3) (ax := 1) h1 h2 (by decide)
  have c0 := nd_bd hB.2.1 (i := i) (ax := 0) h3 h4 (by decide)
  have c1 := nd_bd hB.2.1 (i := i) (ax := 1) h3 h4 (by decide)
  refine t_X8_at (i := 0) (ax := 0) hA h1 h2 (by decide) (by decide) ?_
  intro v3 e3
  refine t_X8_at (i := 0) (ax := 1) hA h1 h2 (by decide) (by decide) ?_
  intro v6 e6
  refine t_X8_at (i := 3) (ax := 0) hA h1 h2 (by decide) (by decide) ?_
  refine t_X8_at (i := 3) (ax := 1) hA h1 h2 (by decide) (by decide) ?_
  refine t_X8_at (ax := 0) hB h3 h4 hi (by decide) ?_
  refine t_X8_at (ax := 1) hB h3 h4 hi (by decide) ?_
  subst e3; subst e6
  unfold f_X8_cross
  simp (disch := omega) only [iI_l, lI_mul, lI_sub]
  exact hQ
theorem lI_mn2 {x y : Int} {k : Int64 → Prop} (h1 : -1000000000000 ≤ x) (h2 : x < 1000000000000) (h3 : -1000000000000 ≤ y) (h4 : y < 1000000000000) (h : k (lI (mnI x y))) : (lI x ≤ lI y → k (lI x)) ∧ (¬ lI x ≤ lI y → k (lI y)) := by
  rw [lI_le (by omega) (by omega) (by omega) (by omega)]
  unfold mnI at h
  constructor
  · intro c; rw [if_neg (by omega)] at h; exact h
  · intro c; rw [if_pos (by omega)] at h; exact h
theorem lI_mx2 {x y : Int} {k : Int64 → Prop} (h1 : -1000000000000 ≤ x) (h2 : x < 1000000000000) (h3 : -1000000000000 ≤ y) (h4 : y < 1000000000000) (h : k (lI (mxI x y))) : (lI y ≤ lI x → k (lI x)) ∧ (¬ lI y ≤ lI x → k (lI y)) := by
  rw [lI_le (by omega) (by omega) (by omega) (by omega)]
  unfold mxI at h
  constructor
  · intro c; rw [if_neg (by omega)] at h; exact h
  · intro c; rw [if_pos (by omega)] at h; exact h
theorem s_X8_bandLow {N a m j k : Nat} {p : Nat → Int} {l : Int} {M : zMem} {Q : Int64 → zMem → Prop} (hA : RLd p a M) (h1 : 1 ≤ m) (h2 : m < 64) (hj : j < 3) (hl : -695784701952 ≤ l ∧ l ≤ 695784701952) (h : f_X8_bandLow_l5 N (iI a) (iI m) Q k (lI (mnI l (sd p m p m j))) (iI ((j + 1 : Nat) : Int)) M) : f_X8_bandLow_l5 N (iI a) (iI m) Q (k + 1) (lI l) (iI j) M := by
  show f_X8_bandLow_b5 N (f_X8_bandLow_l5 N (iI a) (iI m) Q k) (iI a) (iI m) (lI l) (iI j) M Q
  unfold f_X8_bandLow_b5 f_X8_bandLow_b36
  have b := sd_bd hA.2.1 hA.2.1 (i := j) h1 h2 h1 h2
  refine ⟨fun c => ?_, fun c => ?_⟩
  · simp (disch := omega) only [iI_m1, iI_0, iI_1, iI_2, iI_3, iI_4, iI_5, iI_6, iI_7, iI_8, iI_9, iI_10, iI_11, iI_12, iI_13, iI_16, iI_18, iI_20, iI_24, iI_31, iI_32, iI_33, iI_36, iI_48, iI_57, iI_59, iI_63, iI_64, iI_97, iI_100, iI_101, iI_130, iI_255, iI_256, iI_512, iI_1000, iI_1009, iI_2000, iI_2048, iI_32768, iI_2147483647, iI_add, iI_sub, iI_mul, iI_neg, iI_lt, iI_le, iI_eq, iI_in] at c
    omega
  · refine t_X8_side hA hA h1 h2 h1 h2 (by omega) ?_
    refine lI_mn2 (k := fun s => ∀ v3 : Int32, v3 = iI j + 1 → f_X8_bandLow_l5 N (iI a) (iI m) Q k s v3 M) (by omega) (by omega) (by omega) (by omega) ?_
    intro v e
    simp (disch := omega) only [iI_m1, iI_0, iI_1, iI_2, iI_3, iI_4, iI_5, iI_6, iI_7, iI_8, iI_9, iI_10, iI_11, iI_12, iI_13, iI_16, iI_18, iI_20, iI_24, iI_31, iI_32, iI_33, iI_36, iI_48, iI_57, iI_59, iI_63, iI_64, iI_97, iI_100, iI_101, iI_130, iI_255, iI_256, iI_512, iI_1000, iI_1009, iI_2000, iI_2048, iI_32768, iI_2147483647, iI_add, iI_sub, iI_mul, iI_neg, iI_lt, iI_le, iI_eq, iI_in] at e
    subst e
    exact h
theorem t_X8_bandLow {N a m : Nat} {p : Nat → Int} {M : zMem} {Q : Int64 → zMem → Prop} (hN : 100 ≤ N) (hA : RLd p a M) (h1 : 1 ≤ m) (h2 : m < 64) (hQ : Q (lI (bL p m)) M) : f_X8_bandLow N (iI a) (iI m) M Q := by
  unfold f_X8_bandLow
  have b1 := sd_bd hA.2.1 hA.2.1 (i := 1) h1 h2 h1 h2
  obtain ⟨n, hn⟩ : ∃ n, N = n + 3 := ⟨N - 3, by omega⟩
  suffices hh : f_X8_bandLow_l5 N (iI a) (iI m) Q (n + 3) (lI 0) (iI ((1 : Nat) : Int)) M by rw [← hn] at hh; exact hh
  refine s_X8_bandLow hA h1 h2 (by decide) (by decide) ?_
  refine s_X8_bandLow hA h1 h2 (by decide) (mnI_bd (by decide) b1) ?_
  show f_X8_bandLow_b5 N (f_X8_bandLow_l5 N (iI a) (iI m) Q n) (iI a) (iI m) (lI (bL p m)) (iI ((3 : Nat) : Int)) M Q
  unfold f_X8_bandLow_b5
  exact ⟨fun _ => hQ, fun c => absurd (by decide) c⟩
theorem s_X8_bandHigh {N a m j k : Nat} {p : Nat → Int} {l : Int} {M : zMem} {Q : Int64 → zMem → Prop} (hA : RLd p a M) (h1 : 1 ≤ m) (h2 : m < 64) (hj : j < 3) (hl : -695784701952 ≤ l ∧ l ≤ 695784701952) (h : f_X8_bandHigh_l5 N (iI a) (iI m) Q k (lI (mxI l (sd p m p m j))) (iI ((j + 1 : Nat) : Int)) M) : f_X8_bandHigh_l5 N (iI a) (iI m) Q (k + 1) (lI l) (iI j) M := by
  show f_X8_bandHigh_b5 N (f_X8_bandHigh_l5 N (iI a) (iI m) Q k) (iI a) (iI m) (lI l) (iI j) M Q
  unfold f_X8_bandHigh_b5 f_X8_bandHigh_b36
  have b := sd_bd hA.2.1 hA.2.1 (i := j) h1 h2 h1 h2
  refine ⟨fun c => ?_, fun c => ?_⟩
  · simp (disch := omega) only [iI_m1, iI_0, iI_1, iI_2, iI_3, iI_4, iI_5, iI_6, iI_7, iI_8, iI_9, iI_10, iI_11, iI_12, iI_13, iI_16, iI_18, iI_20, iI_24, iI_31, iI_32, iI_33, iI_36, iI_48, iI_57, iI_59, iI_63, iI_64, iI_97, iI_100, iI_101, iI_130, iI_255, iI_256, iI_512, iI_1000, iI_1009, iI_2000, iI_2048, iI_32768, iI_2147483647, iI_add, iI_sub, iI_mul, iI_neg, iI_lt, iI_le, iI_eq, iI_in] at c
    omega
  · refine t_X8_side hA hA h1 h2 h1 h2 (by omega) ?_
    refine lI_mx2 (k := fun s => ∀ v3 : Int32, v3 = iI j + 1 → f_X8_bandHigh_l5 N (iI a) (iI m) Q k s v3 M) (by omega) (by omega) (by omega) (by omega) ?_
    intro v e
    simp (disch := omega) only [iI_m1, iI_0, iI_1, iI_2, iI_3, iI_4, iI_5, iI_6, iI_7, iI_8, iI_9, iI_10, iI_11, iI_12, iI_13, iI_16, iI_18, iI_20, iI_24, iI_31, iI_32, iI_33, iI_36, iI_48, iI_57, iI_59, iI_63, iI_64, iI_97, iI_100, iI_101, iI_130, iI_255, iI_256, iI_512, iI_1000, iI_1009, iI_2000, iI_2048, iI_32768, iI_2147483647, iI_add, iI_sub, iI_mul, iI_neg, iI_lt, iI_le, iI_eq, iI_in] at e
    subst e
    exact h
theorem t_X8_bandHigh {N a m : Nat} {p : Nat → Int} {M : zMem} {Q : Int64 → zMem → Prop} (hN : 100 ≤ N) (hA : RLd p a M) (h1 : 1 ≤ m) (h2 : m < 64) (hQ : Q (lI (bH p m)) M) : f_X8_bandHigh N (iI a) (iI m) M Q := by
  unfold f_X8_bandHigh
  have b1 := sd_bd hA.2.1 hA.2.1 (i := 1) h1 h2 h1 h2
  obtain ⟨n, hn⟩ : ∃ n, N = n + 3 := ⟨N - 3, by omega⟩
  suffices hh : f_X8_bandHigh_l5 N (iI a) (iI m) Q (n + 3) (lI 0) (iI ((1 : Nat) : Int)) M by rw [← hn] at hh; exact hh
  refine s_X8_bandHigh hA h1 h2 (by decide) (by decide) ?_
  refine s_X8_bandHigh hA h1 h2 (by decide) (mxI_bd (by decide) b1) ?_
  show f_X8_bandHigh_b5 N (f_X8_bandHigh_l5 N (iI a) (iI m) Q n) (iI a) (iI m) (lI (bH p m)) (iI ((3 : Nat) : Int)) M Q
  unfold f_X8_bandHigh_b5
  exact ⟨fun _ => hQ, fun c => absurd (by decide) c⟩
noncomputable def b2 (c : Prop) : Int := ifp c 1 0
theorem b2_t {c : Prop} (h : c) : b2 c = 1 := ifp_t h
theorem b2_f {c : Prop} (h : ¬ c) : b2 c = 0 := ifp_f h
theorem b2_c (c : Prop) : (b2 c = 1 ∧ c) ∨ (b2 c = 0 ∧ ¬ c) := (Classical.em c).elim (fun h => Or.inl ⟨b2_t h, h⟩) (fun h => Or.inr ⟨b2_f h, h⟩)
def byn (w : Int) (p : Nat → Int) (m : Nat) (q : Nat → Int) (n i : Nat) : Prop := (w = 1 ∧ bH p m < sd p m q n i) ∨ (¬ w = 1 ∧ sd p m q n i < bL p m)
theorem byn_1 {p q : Nat → Int} {m n i : Nat} : byn 1 p m q n i ↔ bH p m < sd p m q n i := by
  constructor
  · intro h
    rcases h with h | h
    · exact h.2
    · exact absurd rfl h.1
  · intro h; exact Or.inl ⟨rfl, h⟩
theorem byn_0 {p q : Nat → Int} {m n i : Nat} : byn 0 p m q n i ↔ sd p m q n i < bL p m := by
  constructor
  · intro h
    rcases h with h | h
    · exact absurd h.1 (by decide)
    · exact h.2
  · intro h; exact Or.inr ⟨by decide, h⟩
theorem byn_1c (p q : Nat → Int) (m n i : Nat) : (b2 (byn 1 p m q n i) = 1 ∧ bH p m < sd p m q n i) ∨ (b2 (byn 1 p m q n i) = 0 ∧ ¬ bH p m < sd p m q n i) := by
  rcases b2_c (byn 1 p m q n i) with h | h
  · exact Or.inl ⟨h.1, byn_1.mp h.2⟩
  · exact Or.inr ⟨h.1, fun k => h.2 (byn_1.mpr k)⟩
theorem byn_0c (p q : Nat → Int) (m n i : Nat) : (b2 (byn 0 p m q n i) = 1 ∧ sd p m q n i < bL p m) ∨ (b2 (byn 0 p m q n i) = 0 ∧ ¬ sd p m q n i < bL p m) := by
  rcases b2_c (byn 0 p m q n i) with h | h
  · exact Or.inl ⟨h.1, byn_0.mp h.2⟩
  · exact Or.inr ⟨h.1, fun k => h.2 (byn_0.mpr k)⟩
theorem s_X8_beyond {N a b m n i k by1 : Nat} {z w : Int} {p q : Nat → Int} {M : zMem} {Q : Int32 → zMem → Prop} (hA : RLd p a M) (hB : RLd q b M) (h1 : 1 ≤ m) (h2 : m < 64) (h3 : 1 ≤ n) (h4 : n < 64) (hi : i < 4) (hw : w = 0 ∨ w = 1) (h : f_X8_beyond_l22 N (iI a) (iI m) (iI b) (iI n) (iI w) (iI by1) (lI (bL p m)) (lI (bH p m)) Q k (iI (z + b2 (byn w p m q n i))) (iI ((i + by1 : Nat) : Int)) M) : f_X8_beyond_l22 N (iI a) (iI m) (iI b) (iI n) (iI w) (iI by1) (lI (bL p m)) (lI (bH p m)) Q (k + 1) (iI z) (iI i) M := by
  show f_X8_beyond_b22 N (f_X8_beyond_l22 N (iI a) (iI m) (iI b) (iI n) (iI w) (iI by1) (lI (bL p m)) (lI (bH p m)) Q k) (iI a) (iI m) (iI b) (iI n) (iI w) (iI by1) (lI (bL p m)) (lI (bH p m)) (iI z) (iI i) M Q
  unfold f_X8_beyond_b22 f_X8_beyond_b71 f_X8_beyond_b67 f_X8_beyond_b72
  have bs := sd_bd hA.2.1 hB.2.1 (i := i) h1 h2 h3 h4
  have c1 := bL_bd hA.2.1 h1 h2
  have c2 := bH_bd hA.2.1 h1 h2
  refine ⟨fun c => ?_, fun c => ?_⟩
  · simp (disch := omega) only [iI_m1, iI_0, iI_1, iI_2, iI_3, iI_4, iI_5, iI_6, iI_7, iI_8, iI_9, iI_10, iI_11, iI_12, iI_13, iI_16, iI_18, iI_20, iI_24, iI_31, iI_32, iI_33, iI_36, iI_48, iI_57, iI_59, iI_63, iI_64, iI_97, iI_100, iI_101, iI_130, iI_255, iI_256, iI_512, iI_1000, iI_1009, iI_2000, iI_2048, iI_32768, iI_2147483647, iI_add, iI_sub, iI_mul, iI_neg, iI_lt, iI_le, iI_eq, iI_in] at c
    omega
  · refine t_X8_side hA hB h1 h2 h3 h4 hi ?_
    rw [lI_le (by omega) (by omega) (by omega) (by omega), lI_le (by omega) (by omega) (by omega) (by omega)]
    refine ⟨fun c3 => ?_, fun c3 => ?_⟩
    · simp (disch := omega) only [iI_m1, iI_0, iI_1, iI_2, iI_3, iI_4, iI_5, iI_6, iI_7, iI_8, iI_9, iI_10, iI_11, iI_12, iI_13, iI_16, iI_18, iI_20, iI_24, iI_31, iI_32, iI_33, iI_36, iI_48, iI_57, iI_59, iI_63, iI_64, iI_97, iI_100, iI_101, iI_130, iI_255, iI_256, iI_512, iI_1000, iI_1009, iI_2000, iI_2048, iI_32768, iI_2147483647, iI_add, iI_sub, iI_mul, iI_neg, iI_lt, iI_le, iI_eq, iI_in] at c3
      subst c3
      refine ⟨fun c4 => ?_, fun c4 => ?_⟩
      · rw [b2_f (fun hb => by have := byn_0.mp hb; omega)] at h
        intro v7 e7 v8 e8
        simp (disch := omega) only [iI_m1, iI_0, iI_1, iI_2, iI_3, iI_4, iI_5, iI_6, iI_7, iI_8, iI_9, iI_10, iI_11, iI_12, iI_13, iI_16, iI_18, iI_20, iI_24, iI_31, iI_32, iI_33, iI_36, iI_48, iI_57, iI_59, iI_63, iI_64, iI_97, iI_100, iI_101, iI_130, iI_255, iI_256, iI_512, iI_1000, iI_1009, iI_2000, iI_2048, iI_32768, iI_2147483647, iI_add, iI_sub, iI_mul, iI_neg, iI_lt, iI_le, iI_eq, iI_in] at e7
        simp (disch := omega) only [iI_m1, iI_0, iI_1, iI_2, iI_3, iI_4, iI_5, iI_6, iI_7, iI_8, iI_9, iI_10, iI_11, iI_12, iI_13, iI_16, iI_18, iI_20, iI_24, iI_31, iI_32, iI_33, iI_36, iI_48, iI_57, iI_59, iI_63, iI_64, iI_97, iI_100, iI_101, iI_130, iI_255, iI_256, iI_512, iI_1000, iI_1009, iI_2000, iI_2048, iI_32768, iI_2147483647, iI_add, iI_sub, iI_mul, iI_neg, iI_lt, iI_le, iI_eq, iI_in] at e8
        subst e7; subst e8
        exact h
      · rw [b2_t (byn_0.mpr (by omega))] at h
        intro v7 e7 v8 e8
        simp (disch := omega) only [iI_m1, iI_0, iI_1, iI_2, iI_3, iI_4, iI_5, iI_6, iI_7, iI_8, iI_9, iI_10, iI_11, iI_12, iI_13, iI_16, iI_18, iI_20, iI_24, iI_31, iI_32, iI_33, iI_36, iI_48, iI_57, iI_59, iI_63, iI_64, iI_97, iI_100, iI_101, iI_130, iI_255, iI_256, iI_512, iI_1000, iI_1009, iI_2000, iI_2048, iI_32768, iI_2147483647, iI_add, iI_sub, iI_mul, iI_neg, iI_lt, iI_le, iI_eq, iI_in] at e7
        simp (disch := omega) only [iI_m1, iI_0, iI_1, iI_2, iI_3, iI_4, iI_5, iI_6, iI_7, iI_8, iI_9, iI_10, iI_11, iI_12, iI_13, iI_16, iI_18, iI_20, iI_24, iI_31, iI_32, iI_33, iI_36, iI_48, iI_57, iI_59, iI_63, iI_64, iI_97, iI_100, iI_101, iI_130, iI_255, iI_256, iI_512, iI_1000, iI_1009, iI_2000, iI_2048, iI_32768, iI_2147483647, iI_add, iI_sub, iI_mul, iI_neg, iI_lt, iI_le, iI_eq, iI_in] at e8
        subst e7; subst e8
        exact h
    · simp (disch := omega) only [iI_m1, iI_0, iI_1, iI_2, iI_3, iI_4, iI_5, iI_6, iI_7, iI_8, iI_9, iI_10, iI_11, iI_12, iI_13, iI_16, iI_18, iI_20, iI_24, iI_31, iI_32, iI_33, iI_36, iI_48, iI_57, iI_59, iI_63, iI_64, iI_97, iI_100, iI_101, iI_130, iI_255, iI_256, iI_512, iI_1000, iI_1009, iI_2000, iI_2048, iI_32768, iI_2147483647, iI_add, iI_sub, iI_mul, iI_neg, iI_lt, iI_le, iI_eq, iI_in] at c3
      obtain rfl : w = 1 := by omega
      refine ⟨fun c4 => ?_, fun c4 => ?_⟩
      · rw [b2_f (fun hb => by have := byn_1.mp hb; omega)] at h
        intro v7 e7 v8 e8
        simp (disch := omega) only [iI_m1, iI_0, iI_1, iI_2, iI_3, iI_4, iI_5, iI_6, iI_7, iI_8, iI_9, iI_10, iI_11, iI_12, iI_13, iI_16, iI_18, iI_20, iI_24, iI_31, iI_32, iI_33, iI_36, iI_48, iI_57, iI_59, iI_63, iI_64, iI_97, iI_100, iI_101, iI_130, iI_255, iI_256, iI_512, iI_1000, iI_1009, iI_2000, iI_2048, iI_32768, iI_2147483647, iI_add, iI_sub, iI_mul, iI_neg, iI_lt, iI_le, iI_eq, iI_in] at e7
        simp (disch := omega) only [iI_m1, iI_0, iI_1, iI_2, iI_3, iI_4, iI_5, iI_6, iI_7, iI_8, iI_9, iI_10, iI_11, iI_12, iI_13, iI_16, iI_18, iI_20, iI_24, iI_31, iI_32, iI_33, iI_36, iI_48, iI_57, iI_59, iI_63, iI_64, iI_97, iI_100, iI_101, iI_130, iI_255, iI_256, iI_512, iI_1000, iI_1009, iI_2000, iI_2048, iI_32768, iI_2147483647, iI_add, iI_sub, iI_mul, iI_neg, iI_lt, iI_le, iI_eq, iI_in] at e8
        subst e7; subst e8
        exact h
      · rw [b2_t (byn_1.mpr (by omega))] at h
        intro v7 e7 v8 e8
        simp (disch := omega) only [iI_m1, iI_0, iI_1, iI_2, iI_3, iI_4, iI_5, iI_6, iI_7, iI_8, iI_9, iI_10, iI_11, iI_12, iI_13, iI_16, iI_18, iI_20, iI_24, iI_31, iI_32, iI_33, iI_36, iI_48, iI_57, iI_59, iI_63, iI_64, iI_97, iI_100, iI_101, iI_130, iI_255, iI_256, iI_512, iI_1000, iI_1009, iI_2000, iI_2048, iI_32768, iI_2147483647, iI_add, iI_sub, iI_mul, iI_neg, iI_lt, iI_le, iI_eq, iI_in] at e7
        simp (disch := omega) only [iI_m1, iI_0, iI_1, iI_2, iI_3, iI_4, iI_5, iI_6, iI_7, iI_8, iI_9, iI_10, iI_11, iI_12, iI_13, iI_16, iI_18, iI_20, iI_24, iI_31, iI_32, iI_33, iI_36, iI_48, iI_57, iI_59, iI_63, iI_64, iI_97, iI_100, iI_101, iI_130, iI_255, iI_256, iI_512, iI_1000, iI_1009, iI_2000, iI_2048, iI_32768, iI_2147483647, iI_add, iI_sub, iI_mul, iI_neg, iI_lt, iI_le, iI_eq, iI_in] at e8
        subst e7; subst e8
        exact h
theorem x_X8_beyond {N a b m n i k by1 : Nat} {z w : Int} {p : Nat → Int} {M : zMem} {Q : Int32 → zMem → Prop} (hi : 4 ≤ i) (hi2 : i < 10) (hQ : Q (iI z) M) : f_X8_beyond_l22 N (iI a) (iI m) (iI b) (iI n) (iI w) (iI by1) (lI (bL p m)) (lI (bH p m)) Q (k + 1) (iI z) (iI i) M := by
  show f_X8_beyond_b22 N (f_X8_beyond_l22 N (iI a) (iI m) (iI b) (iI n) (iI w) (iI by1) (lI (bL p m)) (lI (bH p m)) Q k) (iI a) (iI m) (iI b) (iI n) (iI w) (iI by1) (lI (bL p m)) (lI (bH p m)) (iI z) (iI i) M Q
  unfold f_X8_beyond_b22
  refine ⟨fun c => hQ, fun c => ?_⟩
  simp (disch := omega) only [iI_m1, iI_0, iI_1, iI_2, iI_3, iI_4, iI_5, iI_6, iI_7, iI_8, iI_9, iI_10, iI_11, iI_12, iI_13, iI_16, iI_18, iI_20, iI_24, iI_31, iI_32, iI_33, iI_36, iI_48, iI_57, iI_59, iI_63, iI_64, iI_97, iI_100, iI_101, iI_130, iI_255, iI_256, iI_512, iI_1000, iI_1009, iI_2000, iI_2048, iI_32768, iI_2147483647, iI_add, iI_sub, iI_mul, iI_neg, iI_lt, iI_le, iI_eq, iI_in] at c
  omega
theorem t_X8_beyond1 {N a b m n : Nat} {w : Int} {p q : Nat → Int} {M : zMem} {Q : Int32 → zMem → Prop} (hN : 100 ≤ N) (hA : RLd p a M) (hB : RLd q b M) (h1 : 1 ≤ m) (h2 : m < 64) (h3 : 1 ≤ n) (h4 : n < 64) (hw : w = 0 ∨ w = 1) (hQ : Q (iI (0 + b2 (byn w p m q n 0) + b2 (byn w p m q n 1) + b2 (byn w p m q n 2) + b2 (byn w p m q n 3))) M) : f_X8_beyond N (iI a) (iI m) (iI b) (iI n) (iI w) (iI ((1 : Nat) : Int)) M Q := by
  unfold f_X8_beyond
  refine t_X8_bandLow hN hA h1 h2 ?_
  refine t_X8_bandHigh hN hA h1 h2 ?_
  obtain ⟨k, hk⟩ : ∃ k, N = k + 5 := ⟨N - 5, by omega⟩
  suffices hh : f_X8_beyond_l22 N (iI a) (iI m) (iI b) (iI n) (iI w) (iI ((1 : Nat) : Int)) (lI (bL p m)) (lI (bH p m)) Q (k + 5) (iI 0) (iI ((0 : Nat) : Int)) M by rw [← hk] at hh; exact hh
  refine s_X8_beyond hA hB h1 h2 h3 h4 (by decide) hw ?_
  refine s_X8_beyond hA hB h1 h2 h3 h4 (by decide) hw ?_
  refine s_X8_beyond hA hB h1 h2 h3 h4 (by decide) hw ?_
  refine s_X8_beyond hA hB h1 h2 h3 h4 (by decide) hw ?_
  exact x_X8_beyond (by decide) (by decide) hQ
theorem t_X8_beyond3 {N a b m n : Nat} {w : Int} {p q : Nat → Int} {M : zMem} {Q : Int32 → zMem → Prop} (hN : 100 ≤ N) (hA : RLd p a M) (hB : RLd q b M) (h1 : 1 ≤ m) (h2 : m < 64) (h3 : 1 ≤ n) (h4 : n < 64) (hw : w = 0 ∨ w = 1) (hQ : Q (iI (0 + b2 (byn w p m q n 0) + b2 (byn w p m q n 3))) M) : f_X8_beyond N (iI a) (iI m) (iI b) (iI n) (iI w) (iI ((3 : Nat) : Int)) M Q := by
  unfold f_X8_beyond
  refine t_X8_bandLow hN hA h1 h2 ?_
  refine t_X8_bandHigh hN hA h1 h2 ?_
  obtain ⟨k, hk⟩ : ∃ k, N = k + 3 := ⟨N - 3, by omega⟩
  suffices hh : f_X8_beyond_l22 N (iI a) (iI m) (iI b) (iI n) (iI w) (iI ((3 : Nat) : Int)) (lI (bL p m)) (lI (bH p m)) Q (k + 3) (iI 0) (iI ((0 : Nat) : Int)) M by rw [← hk] at hh; exact hh
  refine s_X8_beyond hA hB h1 h2 h3 h4 (by decide) hw ?_
  refine s_X8_beyond hA hB h1 h2 h3 h4 (by decide) hw ?_
  exact x_X8_beyond (by decide) (by decide) hQ
theorem t_X8_clears {N a b m n : Nat} {p q : Nat → Int} {M : zMem} {Q : Int32 → zMem → Prop} (hN : 100 ≤ N) (hA : RLd p a M) (hB : RLd q b M) (h1 : 1 ≤ m) (h2 : m < 64) (h3 : 1 ≤ n) (h4 : n < 64) (hQ1 : clr p m q n → Q (iI 1) M) (hQ0 : ¬ clr p m q n → Q (iI 0) M) : f_X8_clears N (iI a) (iI m) (iI b) (iI n) M Q := by
  unfold f_X8_clears
  refine t_X8_beyond1 (w := 1) hN hA hB h1 h2 h3 h4 (by decide) ?_
  have u0 := byn_1c p q m n 0
  have u1 := byn_1c p q m n 1
  have u2 := byn_1c p q m n 2
  have u3 := byn_1c p q m n 3
  refine ⟨fun c => ?_, fun c => ?_⟩
  · simp (disch := omega) only [iI_m1, iI_0, iI_1, iI_2, iI_3, iI_4, iI_5, iI_6, iI_7, iI_8, iI_9, iI_10, iI_11, iI_12, iI_13, iI_16, iI_18, iI_20, iI_24, iI_31, iI_32, iI_33, iI_36, iI_48, iI_57, iI_59, iI_63, iI_64, iI_97, iI_100, iI_101, iI_130, iI_255, iI_256, iI_512, iI_1000, iI_1009, iI_2000, iI_2048, iI_32768, iI_2147483647, iI_add, iI_sub, iI_mul, iI_neg, iI_lt, iI_le, iI_eq, iI_in] at c
    refine hQ1 (Or.inl (fun i hi => ?_))
    rcases (show i = 0 ∨ i = 1 ∨ i = 2 ∨ i = 3 by omega) with rfl | rfl | rfl | rfl <;> omega
  · simp (disch := omega) only [iI_m1, iI_0, iI_1, iI_2, iI_3, iI_4, iI_5, iI_6, iI_7, iI_8, iI_9, iI_10, iI_11, iI_12, iI_13, iI_16, iI_18, iI_20, iI_24, iI_31, iI_32, iI_33, iI_36, iI_48, iI_57, iI_59, iI_63, iI_64, iI_97, iI_100, iI_101, iI_130, iI_255, iI_256, iI_512, iI_1000, iI_1009, iI_2000, iI_2048, iI_32768, iI_2147483647, iI_add, iI_sub, iI_mul, iI_neg, iI_lt, iI_le, iI_eq, iI_in] at c
    refine t_X8_beyond1 (w := 0) hN hA hB h1 h2 h3 h4 (by decide) ?_
    have d0 := byn_0c p q m n 0
    have d1 := byn_0c p q m n 1
    have d2 := byn_0c p q m n 2
    have d3 := byn_0c p q m n 3
    refine ⟨fun c2 => ?_, fun c2 => ?_⟩
    · simp (disch := omega) only [iI_m1, iI_0, iI_1, iI_2, iI_3, iI_4, iI_5, iI_6, iI_7, iI_8, iI_9, iI_10, iI_11, iI_12, iI_13, iI_16, iI_18, iI_20, iI_24, iI_31, iI_32, iI_33, iI_36, iI_48, iI_57, iI_59, iI_63, iI_64, iI_97, iI_100, iI_101, iI_130, iI_255, iI_256, iI_512, iI_1000, iI_1009, iI_2000, iI_2048, iI_32768, iI_2147483647, iI_add, iI_sub, iI_mul, iI_neg, iI_lt, iI_le, iI_eq, iI_in] at c2
      refine hQ0 (fun h => ?_)
      rcases h with h | h
      · have := h 0 (by decide); have := h 1 (by decide); have := h 2 (by decide); have := h 3 (by decide)
        omega
      · have := h 0 (by decide); have := h 1 (by decide); have := h 2 (by decide); have := h 3 (by decide)
        omega
    · simp (disch := omega) only [iI_m1, iI_0, iI_1, iI_2, iI_3, iI_4, iI_5, iI_6, iI_7, iI_8, iI_9, iI_10, iI_11, iI_12, iI_13, iI_16, iI_18, iI_20, iI_24, iI_31, iI_32, iI_33, iI_36, iI_48, iI_57, iI_59, iI_63, iI_64, iI_97, iI_100, iI_101, iI_130, iI_255, iI_256, iI_512, iI_1000, iI_1009, iI_2000, iI_2048, iI_32768, iI_2147483647, iI_add, iI_sub, iI_mul, iI_neg, iI_lt, iI_le, iI_eq, iI_in] at c2
      refine hQ1 (Or.inr (fun i hi => ?_))
      rcases (show i = 0 ∨ i = 1 ∨ i = 2 ∨ i = 3 by omega) with rfl | rfl | rfl | rfl <;> omega
theorem t_X8_isAcross {N a b m n : Nat} {p q : Nat → Int} {M : zMem} {Q : Int32 → zMem → Prop} (hN : 100 ≤ N) (hA : RLd p a M) (hB : RLd q b M) (h1 : 1 ≤ m) (h2 : m < 64) (h3 : 1 ≤ n) (h4 : n < 64) (hQ1 : acr p m q n → Q (iI 1) M) (hQ0 : ¬ acr p m q n → Q (iI 0) M) : f_X8_isAcross N (iI a) (iI m) (iI b) (iI n) M Q := by
  unfold f_X8_isAcross
  have c1 := bL_bd hA.2.1 h1 h2
  have c2 := bH_bd hA.2.1 h1 h2
  refine t_X8_beyond3 (w := 1) hN hA hB h1 h2 h3 h4 (by decide) ?_
  have u0 := byn_1c p q m n 0
  have u3 := byn_1c p q m n 3
  have d0 := byn_0c p q m n 0
  have d3 := byn_0c p q m n 3
  refine ⟨fun c => ?_, fun c => ?_⟩
  · simp (disch := omega) only [iI_m1, iI_0, iI_1, iI_2, iI_3, iI_4, iI_5, iI_6, iI_7, iI_8, iI_9, iI_10, iI_11, iI_12, iI_13, iI_16, iI_18, iI_20, iI_24, iI_31, iI_32, iI_33, iI_36, iI_48, iI_57, iI_59, iI_63, iI_64, iI_97, iI_100, iI_101, iI_130, iI_255, iI_256, iI_512, iI_1000, iI_1009, iI_2000, iI_2048, iI_32768, iI_2147483647, iI_add, iI_sub, iI_mul, iI_neg, iI_lt, iI_le, iI_eq, iI_in] at c
    refine hQ0 (fun h => ?_)
    rcases h with h | h <;> omega
  · simp (disch := omega) only [iI_m1, iI_0, iI_1, iI_2, iI_3, iI_4, iI_5, iI_6, iI_7, iI_8, iI_9, iI_10, iI_11, iI_12, iI_13, iI_16, iI_18, iI_20, iI_24, iI_31, iI_32, iI_33, iI_36, iI_48, iI_57, iI_59, iI_63, iI_64, iI_97, iI_100, iI_101, iI_130, iI_255, iI_256, iI_512, iI_1000, iI_1009, iI_2000, iI_2048, iI_32768, iI_2147483647, iI_add, iI_sub, iI_mul, iI_neg, iI_lt, iI_le, iI_eq, iI_in] at c
    refine t_X8_beyond3 (w := 0) hN hA hB h1 h2 h3 h4 (by decide) ?_
    refine ⟨fun c2 => ?_, fun c2 => ?_⟩
    · simp (disch := omega) only [iI_m1, iI_0, iI_1, iI_2, iI_3, iI_4, iI_5, iI_6, iI_7, iI_8, iI_9, iI_10, iI_11, iI_12, iI_13, iI_16, iI_18, iI_20, iI_24, iI_31, iI_32, iI_33, iI_36, iI_48, iI_57, iI_59, iI_63, iI_64, iI_97, iI_100, iI_101, iI_130, iI_255, iI_256, iI_512, iI_1000, iI_1009, iI_2000, iI_2048, iI_32768, iI_2147483647, iI_add, iI_sub, iI_mul, iI_neg, iI_lt, iI_le, iI_eq, iI_in] at c2
      refine hQ0 (fun h => ?_)
      rcases h with h | h <;> omega
    · simp (disch := omega) only [iI_m1, iI_0, iI_1, iI_2, iI_3, iI_4, iI_5, iI_6, iI_7, iI_8, iI_9, iI_10, iI_11, iI_12, iI_13, iI_16, iI_18, iI_20, iI_24, iI_31, iI_32, iI_33, iI_36, iI_48, iI_57, iI_59, iI_63, iI_64, iI_97, iI_100, iI_101, iI_130, iI_255, iI_256, iI_512, iI_1000, iI_1009, iI_2000, iI_2048, iI_32768, iI_2147483647, iI_add, iI_sub, iI_mul, iI_neg, iI_lt, iI_le, iI_eq, iI_in] at c2
      refine hQ1 ?_
      unfold acr
      omega
