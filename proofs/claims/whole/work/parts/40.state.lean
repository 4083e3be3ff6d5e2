/-! ===== what both sides stand for ===== -/
abbrev TxS : Type := Nat × (Nat → Int)
abbrev HiS : Type := Nat × (Nat → Nat) × (Nat → Nat → Int)
abbrev ImS : Type := (Nat → Prop) × (Nat → Nat → Nat → Int)
abbrev SeS : Type := Nat × (Nat → Nat) × (Nat → Nat)
def cA (n : Nat) (P : Nat → Nat → Int) (M : zMem) : Prop := n ≤ 4 ∧ M.1 0 2 = iI (n : Int) ∧ (∀ k, k < n → RA (P k) (5 + 6 * k) M) ∧ CV n P M ∧ KV n P M
def cT (T : TxS) (M : zMem) : Prop := T.1 ≤ 130 ∧ M.1 1 1 = iI (T.1 : Int) ∧ ∀ k, k < T.1 → (0 ≤ T.2 k ∧ T.2 k ≤ 255) ∧ M.1 2 k = iI (T.2 k)
def cH (n : Nat) (H : HiS) (M : zMem) : Prop := H.1 ≤ 10 ∧ M.1 29 2 = iI (H.1 : Int) ∧ ∀ i, i < H.1 → H.2.1 i < n ∧ pOk (H.2.2 i) ∧ M.1 30 (H.1 - 1 - i) = iI (H.2.1 i : Int) ∧ ∀ k, k < 8 → M.1 31 (8 * (H.1 - 1 - i) + k) = iI (H.2.2 i k)
def cI (n : Nat) (I : ImS) (M : zMem) : Prop := ∀ i, i < 2 → (¬ I.1 i ∧ M.1 33 i = iI 0) ∨ (I.1 i ∧ M.1 33 i = iI 1 ∧ ∀ a, a < n → pOk (I.2 i a) ∧ ∀ k, k < 8 → M.1 34 (8 * (4 * i + a) + k) = iI (I.2 i a k))
def cS (n : Nat) (E : SeS) (M : zMem) : Prop := E.1 ≤ 6 ∧ M.1 35 2 = iI (E.1 : Int) ∧ ∀ j, j < E.1 → E.2.1 j < n ∧ E.2.2 j ≤ 101 ∧ M.1 36 j = iI (E.2.1 j : Int) ∧ M.1 37 j = iI (E.2.2 j : Int)
def RC (n : Nat) (P : Nat → Nat → Int) (T : TxS) (H : HiS) (I : ImS) (E : SeS) (M : zMem) : Prop := cA n P M ∧ cT T M ∧ cH n H M ∧ cI n I M ∧ cS n E M
def rT (T : TxS) (M : zMem) : Prop := T.1 ≤ 130 ∧ M.1 47 12 = iI (T.1 : Int) ∧ ∀ k, k < T.1 → (0 ≤ T.2 k ∧ T.2 k ≤ 255) ∧ M.1 55 k = iI (T.2 k)
def stp (P : Nat → Nat → Int) (H : HiS) : Nat → Nat → Nat → Int
  | 0 => P
  | i + 1 => fun x => if x = H.2.1 i then H.2.2 i else stp P H i x
def rH (n : Nat) (P : Nat → Nat → Int) (H : HiS) (M : zMem) : Prop := H.1 ≤ 10 ∧ M.1 47 4 = iI (H.1 : Int) ∧ (∀ i, i < H.1 → H.2.1 i < n ∧ pOk (H.2.2 i)) ∧ ∀ j, j < H.1 → ∀ a, a < n → ∀ k, k < 8 → M.1 49 (32 * j + 8 * a + k) = iI (stp P H (H.1 - j) a k)
def rI (n : Nat) (I : ImS) (M : zMem) : Prop := ∀ i, i < 2 → (¬ I.1 i ∧ M.1 51 i = iI 0) ∨ (I.1 i ∧ M.1 51 i = iI 1 ∧ ∀ a, a < n → pOk (I.2 i a) ∧ ∀ k, k < 8 → M.1 50 (32 * i + 8 * a + k) = iI (I.2 i a k))
def rS (n : Nat) (E : SeS) (M : zMem) : Prop := E.1 ≤ 6 ∧ M.1 47 7 = iI (E.1 : Int) ∧ ∀ j, j < E.1 → E.2.1 j < n ∧ E.2.2 j ≤ 101 ∧ M.1 52 j = iI (E.2.1 j : Int) ∧ M.1 53 j = iI (E.2.2 j : Int)
def RR (n : Nat) (P : Nat → Nat → Int) (T : TxS) (H : HiS) (I : ImS) (E : SeS) (M : zMem) : Prop := RRl n P M ∧ rT T M ∧ rH n P H M ∧ rI n I M ∧ rS n E M
theorem FDx_e {p q : Nat → Int} {M M' : zMem} (h : FDx p q M) (e : ∀ c, 38 ≤ c → c ≤ 44 → M'.1 c = M.1 c) : FDx p q M' := by
  unfold FDx MC SO TO at h ⊢
  simp only [e 38 (by decide) (by decide), e 39 (by decide) (by decide), e 40 (by decide) (by decide), e 41 (by decide) (by decide), e 42 (by decide) (by decide), e 43 (by decide) (by decide), e 44 (by decide) (by decide)]
  exact h
theorem CV_e {n : Nat} {P : Nat → Nat → Int} {M M' : zMem} (h : CV n P M) (e : ∀ c, 38 ≤ c → c ≤ 44 → M'.1 c = M.1 c) : CV n P M' := by
  have e38 := e 38 (by decide) (by decide)
  rcases h with h | ⟨a, b, h1, h2, h3, h4, h5⟩
  · exact Or.inl ⟨by rw [e38]; exact h.1, by rw [e38]; exact h.2⟩
  · exact Or.inr ⟨a, b, h1, h2, by rw [e38]; exact h3, by rw [e38]; exact h4, FDx_e h5 e⟩
theorem KV_e {n : Nat} {P : Nat → Nat → Int} {M M' : zMem} (h : KV n P M) (e : M'.1 46 = M.1 46) : KV n P M' := by
  unfold KV at h ⊢
  rw [e]
  exact h
theorem cA_fz {n : Nat} {P : Nat → Nat → Int} {M M' : zMem} {lo hi : Nat} (h : cA n P M) (hf : fz lo hi M M') (hl : 47 ≤ lo ∨ (29 ≤ lo ∧ hi < 38) ∨ (1 ≤ lo ∧ hi < 5)) : cA n P M' := by
  obtain ⟨h1, h2, h3, h4, h5⟩ := h
  refine ⟨h1, by rw [(hf 0 (by omega)).1]; exact h2, fun k hk => ?_, CV_e h4 (fun c c1 c2 => (hf c (by omega)).1), KV_e h5 (hf 46 (by omega)).1⟩
  exact (h3 k hk).fz hf (by omega)
theorem cT_fz {T : TxS} {M M' : zMem} {lo hi : Nat} (h : cT T M) (hf : fz lo hi M M') (hl : 3 ≤ lo ∨ hi < 1) : cT T M' := by
  unfold cT at h ⊢
  rw [(hf 1 (by omega)).1, (hf 2 (by omega)).1]
  exact h
theorem cH_fz {n : Nat} {H : HiS} {M M' : zMem} {lo hi : Nat} (h : cH n H M) (hf : fz lo hi M M') (hl : 32 ≤ lo ∨ hi < 29) : cH n H M' := by
  unfold cH at h ⊢
  rw [(hf 29 (by omega)).1, (hf 30 (by omega)).1, (hf 31 (by omega)).1]
  exact h
theorem cI_fz {n : Nat} {I : ImS} {M M' : zMem} {lo hi : Nat} (h : cI n I M) (hf : fz lo hi M M') (hl : 35 ≤ lo ∨ hi < 33) : cI n I M' := by
  unfold cI at h ⊢
  rw [(hf 33 (by omega)).1, (hf 34 (by omega)).1]
  exact h
theorem cS_fz {n : Nat} {E : SeS} {M M' : zMem} {lo hi : Nat} (h : cS n E M) (hf : fz lo hi M M') (hl : 38 ≤ lo ∨ hi < 35) : cS n E M' := by
  unfold cS at h ⊢
  rw [(hf 35 (by omega)).1, (hf 36 (by omega)).1, (hf 37 (by omega)).1]
  exact h
theorem RC_r {n : Nat} {P : Nat → Nat → Int} {T : TxS} {H : HiS} {I : ImS} {E : SeS} {M M' : zMem} (h : RC n P T H I E M) (hf : fz 47 62 M M') : RC n P T H I E M' := ⟨cA_fz h.1 hf (by omega), cT_fz h.2.1 hf (by omega), cH_fz h.2.2.1 hf (by omega), cI_fz h.2.2.2.1 hf (by omega), cS_fz h.2.2.2.2 hf (by omega)⟩
theorem RC_c {n : Nat} {P : Nat → Nat → Int} {T : TxS} {H : HiS} {I : ImS} {E : SeS} {M M' : zMem} (h : RC n P T H I E M) (hf : fz 38 46 M M') (hC : CV n P M') (hK : KV n P M') : RC n P T H I E M' := ⟨⟨h.1.1, by rw [(hf 0 (by omega)).1]; exact h.1.2.1, fun k hk => (h.1.2.2.1 k hk).fz hf (by have := h.1.1; omega), hC, hK⟩, cT_fz h.2.1 hf (by omega), cH_fz h.2.2.1 hf (by omega), cI_fz h.2.2.2.1 hf (by omega), cS_fz h.2.2.2.2 hf (by omega)⟩
theorem RRl_e {n : Nat} {P : Nat → Nat → Int} {M M' : zMem} (h : RRl n P M) (e1 : M'.1 47 1 = M.1 47 1) (e2 : M'.1 47 11 = M.1 47 11) (e3 : M'.1 48 = M.1 48) (e4 : M'.1 54 = M.1 54) : RRl n P M' := by
  unfold RRl SR RLd at h ⊢
  rw [e1, e2, e3, e4]
  exact h
/-- what of the reference may change with nothing of its state -/
def qSet (c k : Nat) : Prop := 56 ≤ c ∨ (c = 47 ∧ k ≠ 1 ∧ k ≠ 4 ∧ k ≠ 7 ∧ k ≠ 11 ∧ k ≠ 12)
theorem RR_q {n : Nat} {P : Nat → Nat → Int} {T : TxS} {H : HiS} {I : ImS} {E : SeS} {M M' : zMem} (h : RR n P T H I E M) (hf : fs (fun c k => c < 47 ∨ qSet c k ∨ c = 54 ∨ (c = 47 ∧ k = 11)) M M') (hl : RRl n P M') : RR n P T H I E M' := by
  obtain ⟨h1, h2, h3, h4, h5⟩ := h
  have q : ∀ c k, (c = 48 ∨ c = 49 ∨ c = 50 ∨ c = 51 ∨ c = 52 ∨ c = 53 ∨ c = 55 ∨ (c = 47 ∧ (k = 1 ∨ k = 4 ∨ k = 7 ∨ k = 12))) → M'.1 c k = M.1 c k := fun c k hc => hf.2 c k (by unfold qSet; omega)
  refine ⟨hl, ⟨h2.1, (q _ _ (by omega)).trans h2.2.1, fun k hk => ⟨(h2.2.2 k hk).1, (q _ _ (by omega)).trans (h2.2.2 k hk).2⟩⟩, ⟨h3.1, (q _ _ (by omega)).trans h3.2.1, h3.2.2.1, fun j hj a ha k hk => (q _ _ (by omega)).trans (h3.2.2.2 j hj a ha k hk)⟩, fun i hi => ?_, ⟨h5.1, (q _ _ (by omega)).trans h5.2.1, fun j hj => ⟨(h5.2.2 j hj).1, (h5.2.2 j hj).2.1, (q _ _ (by omega)).trans (h5.2.2 j hj).2.2.1, (q _ _ (by omega)).trans (h5.2.2 j hj).2.2.2⟩⟩⟩
  rcases h4 i hi with h | h
  · exact Or.inl ⟨h.1, (q _ _ (by omega)).trans h.2⟩
  · exact Or.inr ⟨h.1, (q _ _ (by omega)).trans h.2.1, fun a ha => ⟨(h.2.2 a ha).1, fun k hk => (q _ _ (by omega)).trans ((h.2.2 a ha).2 k hk)⟩⟩
theorem RR_c {n : Nat} {P : Nat → Nat → Int} {T : TxS} {H : HiS} {I : ImS} {E : SeS} {M M' : zMem} (h : RR n P T H I E M) (hf : fz 0 46 M M') : RR n P T H I E M' := by
  have e : ∀ c, 47 ≤ c → M'.1 c = M.1 c := fun c hc => (hf c (by omega)).1
  unfold RR RRl SR RLd rT rH rI rS at h ⊢
  simp only [e 47 (by decide), e 48 (by decide), e 49 (by decide), e 50 (by decide), e 51 (by decide), e 52 (by decide), e 53 (by decide), e 54 (by decide), e 55 (by decide)]
  exact h
theorem RR_r {n : Nat} {P : Nat → Nat → Int} {T : TxS} {H : HiS} {I : ImS} {E : SeS} {M M' : zMem} (h : RR n P T H I E M) (hf : fs rSet M M') (hl : RRl n P M') : RR n P T H I E M' :=
  RR_q h (hf.wide (fun c k w => by unfold rSet at w; unfold qSet; omega)) hl
theorem RR_0 {n : Nat} {P : Nat → Nat → Int} {T : TxS} {H : HiS} {I : ImS} {E : SeS} {M : zMem} {v : Int32} (h : RR n P T H I E M) : RR n P T H I E (zwI M 47 0 v) :=
  RR_q h (fs_wI (by unfold qSet; omega)) (RRl_e h.1 (by rw [zwI_1, if_neg (by omega)]) (by rw [zwI_1, if_neg (by omega)]) (by funext k; rw [zwI_1, if_neg (by omega)]) (by funext k; rw [zwI_1, if_neg (by omega)]))
theorem fs_r {S : Nat → Nat → Prop} {M M' : zMem} (h : fs S M M') (hS : ∀ c k, S c k → 47 ≤ c ∧ c ≤ 62) : fz 47 62 M M' := fs_fz h hS
theorem fz_rSet {M M' : zMem} (h : fs rSet M M') : fz 47 62 M M' := fs_fz h (fun c k w => by unfold rSet at w; omega)
theorem fz_0 {M : zMem} {k : Nat} {v : Int32} : fz 47 62 M (zwI M 47 k v) := fz_wI (by decide) (by decide)
/-! ===== is it an arc, a node, a point, an axis, an image ===== -/
theorem t_X7_isArc {N n : Nat} {z : Int} {M : zMem} {Q : Int32 → zMem → Prop} (hn : n ≤ 4) (hM : M.1 0 2 = iI (n : Int)) (hz : -2147483648 ≤ z) (hz2 : z < 2147483648) (hQ1 : ∀ a : Nat, z = (a : Int) → a < n → Q (iI 1) M) (hQ0 : ¬ (0 ≤ z ∧ z < n) → Q (iI 0) M) : f_X7_isArc N (iI z) M Q := by
  unfold f_X7_isArc
  rw [hM]
  simp (disch := omega) only [iI_m1, iI_0, iI_1, iI_2, iI_3, iI_4, iI_5, iI_6, iI_7, iI_8, iI_9, iI_10, iI_11, iI_12, iI_13, iI_16, iI_18, iI_20, iI_24, iI_31, iI_32, iI_33, iI_36, iI_48, iI_57, iI_59, iI_63, iI_64, iI_97, iI_100, iI_101, iI_130, iI_255, iI_256, iI_512, iI_1000, iI_1009, iI_2000, iI_2048, iI_32768, iI_2147483647, iI_add, iI_sub, iI_mul, iI_neg, iI_lt, iI_le, iI_eq, iI_in]
  exact ⟨fun c => hQ0 (by omega), fun c => ⟨fun c2 => hQ0 (by omega), fun c2 => hQ1 z.toNat (by omega) (by omega)⟩⟩
theorem t_X7_isNode {N : Nat} {z : Int} {M : zMem} {Q : Int32 → zMem → Prop} (hz : -2147483648 ≤ z) (hz2 : z < 2147483648) (hQ1 : ∀ m : Nat, z = (m : Int) → 1 ≤ m → m < 64 → Q (iI 1) M) (hQ0 : ¬ (1 ≤ z ∧ z < 64) → Q (iI 0) M) : f_X7_isNode N (iI z) M Q := by
  unfold f_X7_isNode
  simp (disch := omega) only [iI_m1, iI_0, iI_1, iI_2, iI_3, iI_4, iI_5, iI_6, iI_7, iI_8, iI_9, iI_10, iI_11, iI_12, iI_13, iI_16, iI_18, iI_20, iI_24, iI_31, iI_32, iI_33, iI_36, iI_48, iI_57, iI_59, iI_63, iI_64, iI_97, iI_100, iI_101, iI_130, iI_255, iI_256, iI_512, iI_1000, iI_1009, iI_2000, iI_2048, iI_32768, iI_2147483647, iI_add, iI_sub, iI_mul, iI_neg, iI_lt, iI_le, iI_eq, iI_in]
  exact ⟨fun c => hQ0 (by omega), fun c => ⟨fun c2 => hQ0 (by omega), fun c2 => hQ1 z.toNat (by omega) (by omega) (by omega)⟩⟩
theorem t_X7_isPoint {N : Nat} {z : Int} {M : zMem} {Q : Int32 → zMem → Prop} (hz : -2147483648 ≤ z) (hz2 : z < 2147483648) (hQ1 : ∀ i : Nat, z = (i : Int) → i < 4 → Q (iI 1) M) (hQ0 : ¬ (0 ≤ z ∧ z < 4) → Q (iI 0) M) : f_X7_isPoint N (iI z) M Q := by
  unfold f_X7_isPoint
  simp (disch := omega) only [iI_m1, iI_0, iI_1, iI_2, iI_3, iI_4, iI_5, iI_6, iI_7, iI_8, iI_9, iI_10, iI_11, iI_12, iI_13, iI_16, iI_18, iI_20, iI_24, iI_31, iI_32, iI_33, iI_36, iI_48, iI_57, iI_59, iI_63, iI_64, iI_97, iI_100, iI_101, iI_130, iI_255, iI_256, iI_512, iI_1000, iI_1009, iI_2000, iI_2048, iI_32768, iI_2147483647, iI_add, iI_sub, iI_mul, iI_neg, iI_lt, iI_le, iI_eq, iI_in]
  exact ⟨fun c => hQ0 (by omega), fun c => ⟨fun c2 => hQ0 (by omega), fun c2 => hQ1 z.toNat (by omega) (by omega)⟩⟩
theorem t_X7_isImage {N : Nat} {z : Int} {M : zMem} {Q : Int32 → zMem → Prop} (hz : -2147483648 ≤ z) (hz2 : z < 2147483648) (hQ1 : ∀ i : Nat, z = (i : Int) → i < 2 → Q (iI 1) M) (hQ0 : ¬ (0 ≤ z ∧ z < 2) → Q (iI 0) M) : f_X7_isImage N (iI z) M Q := by
  unfold f_X7_isImage
  simp (disch := omega) only [iI_m1, iI_0, iI_1, iI_2, iI_3, iI_4, iI_5, iI_6, iI_7, iI_8, iI_9, iI_10, iI_11, iI_12, iI_13, iI_16, iI_18, iI_20, iI_24, iI_31, iI_32, iI_33, iI_36, iI_48, iI_57, iI_59, iI_63, iI_64, iI_97, iI_100, iI_101, iI_130, iI_255, iI_256, iI_512, iI_1000, iI_1009, iI_2000, iI_2048, iI_32768, iI_2147483647, iI_add, iI_sub, iI_mul, iI_neg, iI_lt, iI_le, iI_eq, iI_in]
  exact ⟨fun c => hQ0 (by omega), fun c => ⟨fun c2 => hQ0 (by omega), fun c2 => hQ1 z.toNat (by omega) (by omega)⟩⟩
theorem t_X7_isAxis {N : Nat} {z : Int} {M : zMem} {Q : Int32 → zMem → Prop} (hz : -2147483648 ≤ z) (hz2 : z < 2147483648) (hQ1 : ∀ i : Nat, z = (i : Int) → i < 2 → Q (iI 1) M) (hQ0 : ¬ (0 ≤ z ∧ z < 2) → Q (iI 0) M) : f_X7_isAxis N (iI z) M Q := by
  unfold f_X7_isAxis
  simp (disch := omega) only [iI_m1, iI_0, iI_1, iI_2, iI_3, iI_4, iI_5, iI_6, iI_7, iI_8, iI_9, iI_10, iI_11, iI_12, iI_13, iI_16, iI_18, iI_20, iI_24, iI_31, iI_32, iI_33, iI_36, iI_48, iI_57, iI_59, iI_63, iI_64, iI_97, iI_100, iI_101, iI_130, iI_255, iI_256, iI_512, iI_1000, iI_1009, iI_2000, iI_2048, iI_32768, iI_2147483647, iI_add, iI_sub, iI_mul, iI_neg, iI_lt, iI_le, iI_eq, iI_in]
  exact ⟨fun c => hQ1 z.toNat (by omega) (by omega), fun c => ⟨fun c2 => hQ0 (by omega), fun c2 => hQ1 z.toNat (by omega) (by omega)⟩⟩
theorem t_X7_areTwoArcs {N n : Nat} {z y : Int} {M : zMem} {Q : Int32 → zMem → Prop} (hn : n ≤ 4) (hM : M.1 0 2 = iI (n : Int)) (hz : -2147483648 ≤ z) (hz2 : z < 2147483648) (hy : -2147483648 ≤ y) (hy2 : y < 2147483648) (hQ1 : ∀ a b : Nat, z = (a : Int) → a < n → y = (b : Int) → b < n → a ≠ b → Q (iI 1) M) (hQ0 : ¬ ((0 ≤ z ∧ z < n) ∧ (0 ≤ y ∧ y < n) ∧ z ≠ y) → Q (iI 0) M) : f_X7_areTwoArcs N (iI z) (iI y) M Q := by
  unfold f_X7_areTwoArcs
  refine t_X7_isArc hn hM hz hz2 (fun a ha ha2 => ?_) (fun w => ?_)
  · refine ⟨fun e => absurd e (by decide), fun _ => ?_⟩
    refine t_X7_isArc hn hM hy hy2 (fun b hb hb2 => ?_) (fun w => ?_)
    · refine ⟨fun e => absurd e (by decide), fun _ => ?_⟩
      simp (disch := omega) only [iI_m1, iI_0, iI_1, iI_2, iI_3, iI_4, iI_5, iI_6, iI_7, iI_8, iI_9, iI_10, iI_11, iI_12, iI_13, iI_16, iI_18, iI_20, iI_24, iI_31, iI_32, iI_33, iI_36, iI_48, iI_57, iI_59, iI_63, iI_64, iI_97, iI_100, iI_101, iI_130, iI_255, iI_256, iI_512, iI_1000, iI_1009, iI_2000, iI_2048, iI_32768, iI_2147483647, iI_add, iI_sub, iI_mul, iI_neg, iI_lt, iI_le, iI_eq, iI_in]
      exact ⟨fun c => hQ0 (by omega), fun c => hQ1 a b ha ha2 hb hb2 (by omega)⟩
    · exact ⟨fun _ => hQ0 (by omega), fun e => absurd rfl e⟩
  · exact ⟨fun _ => hQ0 (by omega), fun e => absurd rfl e⟩
theorem t_X8_isArc {N n : Nat} {z : Int} {M : zMem} {Q : Int32 → zMem → Prop} (hn : n ≤ 4) (hM : M.1 47 1 = iI (n : Int)) (hz : -2147483648 ≤ z) (hz2 : z < 2147483648) (hQ1 : ∀ a : Nat, z = (a : Int) → a < n → Q (iI 1) M) (hQ0 : ¬ (0 ≤ z ∧ z < n) → Q (iI 0) M) : f_X8_isArc N (iI z) M Q := by
  unfold f_X8_isArc
  rw [hM, iI_1, iI_sub]
  exact t_X8_in (lo := 0) (by omega) (by decide) (by omega) (fun h => ⟨zb_1, hQ1 z.toNat (by omega) (by omega)⟩) (fun h => ⟨zb_0, hQ0 (by omega)⟩)
theorem t_X8_isNode {N : Nat} {z : Int} {M : zMem} {Q : Int32 → zMem → Prop} (hz : -2147483648 ≤ z) (hz2 : z < 2147483648) (hQ1 : ∀ m : Nat, z = (m : Int) → 1 ≤ m → m < 64 → Q (iI 1) M) (hQ0 : ¬ (1 ≤ z ∧ z < 64) → Q (iI 0) M) : f_X8_isNode N (iI z) M Q := by
  unfold f_X8_isNode
  exact t_X8_in (lo := 1) (hi := 63) (by omega) (by decide) (by decide) (fun h => ⟨zb_1, hQ1 z.toNat (by omega) (by omega) (by omega)⟩) (fun h => ⟨zb_0, hQ0 (by omega)⟩)
/-- a number from 0 on, below h + 1 -/
theorem t_X8_upTo {N : Nat} {z h : Int} {M : zMem} {Q : Int32 → zMem → Prop} (hz : -2147483648 ≤ z) (hz2 : z < 2147483648) (hh : 0 ≤ h ∧ h < 1000) (hQ1 : ∀ i : Nat, z = (i : Int) → (i : Int) ≤ h → Q (iI 1) M) (hQ0 : ¬ (0 ≤ z ∧ z ≤ h) → Q (iI 0) M) : f_X8_in N (iI z) 0 (iI h) M Q :=
  t_X8_in (lo := 0) (by omega) (by decide) (by omega) (fun w => hQ1 z.toNat (by omega) (by omega)) hQ0
theorem t_X8_arePair {N n : Nat} {z y : Int} {M : zMem} {Q : Int32 → zMem → Prop} (hn : n ≤ 4) (hM : M.1 47 1 = iI (n : Int)) (hz : -2147483648 ≤ z) (hz2 : z < 2147483648) (hy : -2147483648 ≤ y) (hy2 : y < 2147483648) (hQ1 : ∀ a b : Nat, z = (a : Int) → a < n → y = (b : Int) → b < n → a ≠ b → Q (iI 1) M) (hQ0 : ¬ ((0 ≤ z ∧ z < n) ∧ (0 ≤ y ∧ y < n) ∧ z ≠ y) → Q (iI 0) M) : f_X8_arePair N (iI z) (iI y) M Q := by
  unfold f_X8_arePair
  refine t_X8_isArc hn hM hz hz2 (fun a ha ha2 => ?_) (fun w => ?_)
  · refine ⟨fun e => absurd e (by decide), fun _ => ?_⟩
    refine t_X8_isArc hn hM hy hy2 (fun b hb hb2 => ?_) (fun w => ?_)
    · refine ⟨fun e => absurd e (by decide), fun _ => ?_⟩
      simp (disch := omega) only [iI_m1, iI_0, iI_1, iI_2, iI_3, iI_4, iI_5, iI_6, iI_7, iI_8, iI_9, iI_10, iI_11, iI_12, iI_13, iI_16, iI_18, iI_20, iI_24, iI_31, iI_32, iI_33, iI_36, iI_48, iI_57, iI_59, iI_63, iI_64, iI_97, iI_100, iI_101, iI_130, iI_255, iI_256, iI_512, iI_1000, iI_1009, iI_2000, iI_2048, iI_32768, iI_2147483647, iI_add, iI_sub, iI_mul, iI_neg, iI_lt, iI_le, iI_eq, iI_in]
      exact ⟨fun c => hQ0 (by omega), fun c => hQ1 a b ha ha2 hb hb2 (by omega)⟩
    · exact ⟨fun _ => hQ0 (by omega), fun e => absurd rfl e⟩
  · exact ⟨fun _ => hQ0 (by omega), fun e => absurd rfl e⟩
