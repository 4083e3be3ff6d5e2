/-! ===== pieces: apart, turn, crossed ===== -/
def pb (p : Nat → Int) (m : Nat) (s : Int) : Int := if bH p m < s then 1 else if s < bL p m then -1 else 0
def clr (p : Nat → Int) (m : Nat) (q : Nat → Int) (n : Nat) : Prop := (∀ i, i < 4 → bH p m < sd p m q n i) ∨ (∀ i, i < 4 → sd p m q n i < bL p m)
def bxA (p : Nat → Int) (m : Nat) (q : Nat → Int) (n ax : Nat) : Prop := bx p m ax < bn q n ax ∨ bx q n ax < bn p m ax
theorem clr_dec (p : Nat → Int) (m : Nat) (q : Nat → Int) (n : Nat) : clr p m q n ∨ ¬ clr p m q n := Classical.em _
noncomputable def ifp {α : Type} (c : Prop) (a b : α) : α := @ite α c (Classical.propDecidable c) a b
theorem ifp_t {α : Type} {c : Prop} {a b : α} (h : c) : ifp c a b = a := by unfold ifp; exact if_pos h
theorem ifp_f {α : Type} {c : Prop} {a b : α} (h : ¬ c) : ifp c a b = b := by unfold ifp; exact if_neg h
noncomputable def apt (p : Nat → Int) (m : Nat) (q : Nat → Int) (n : Nat) : Int := ifp (bxA p m q n 0 ∨ bxA p m q n 1) 1 (ifp (clr p m q n) 2 (ifp (clr q n p m) 3 0))
def crs (p : Nat → Int) (m i : Nat) (q : Nat → Int) (n j : Nat) : Int := (nd p m (i + 1) 0 - nd p m i 0) * (nd q n (j + 1) 1 - nd q n j 1) - (nd p m (i + 1) 1 - nd p m i 1) * (nd q n (j + 1) 0 - nd q n j 0)
noncomputable def trn (p : Nat → Int) (m : Nat) (q : Nat → Int) (n : Nat) : Int := ifp (∀ i j, i < 3 → j < 3 → 0 < crs p m i q n j) 1 (ifp (∀ i j, i < 3 → j < 3 → crs p m i q n j < 0) (-1) 0)
def acr (p : Nat → Int) (m : Nat) (q : Nat → Int) (n : Nat) : Prop := (bH p m < sd p m q n 0 ∧ sd p m q n 3 < bL p m) ∨ (sd p m q n 0 < bL p m ∧ bH p m < sd p m q n 3)
def cro (p : Nat → Int) (m : Nat) (q : Nat → Int) (n : Nat) : Prop := trn p m q n ≠ 0 ∧ acr p m q n ∧ acr q n p m
theorem pb_c (p : Nat → Int) (m : Nat) (s : Int) : (pb p m s = 1 ∧ bH p m < s) ∨ (pb p m s = -1 ∧ s < bL p m ∧ ¬ bH p m < s) ∨ (pb p m s = 0 ∧ ¬ bH p m < s ∧ ¬ s < bL p m) := by
  unfold pb
  split
  · exact Or.inl ⟨rfl, by assumption⟩
  · split
    · exact Or.inr (Or.inl ⟨rfl, by assumption, by assumption⟩)
    · exact Or.inr (Or.inr ⟨rfl, by assumption, by assumption⟩)
theorem clr_iff {p q : Nat → Int} (hp : pOk p) {m n : Nat} (h1 : 1 ≤ m) (h2 : m < 64) : clr p m q n ↔ (pb p m (sd p m q n 0) ≠ 0 ∧ ∀ i, i < 4 → pb p m (sd p m q n i) = pb p m (sd p m q n 0)) := by
  have a := bL_bd hp h1 h2
  have b := bH_bd hp h1 h2
  constructor
  · intro h
    rcases h with h | h
    · have e : ∀ i, i < 4 → pb p m (sd p m q n i) = 1 := fun i hi => by unfold pb; rw [if_pos (h i hi)]
      exact ⟨by rw [e 0 (by decide)]; decide, fun i hi => by rw [e i hi, e 0 (by decide)]⟩
    · have e : ∀ i, i < 4 → pb p m (sd p m q n i) = -1 := fun i hi => by
        have := h i hi
        unfold pb; rw [if_neg (by omega), if_pos this]
      exact ⟨by rw [e 0 (by decide)]; decide, fun i hi => by rw [e i hi, e 0 (by decide)]⟩
  · intro ⟨h0, h⟩
    rcases pb_c p m (sd p m q n 0) with ⟨e, _⟩ | ⟨e, _⟩ | ⟨e, _⟩
    · refine Or.inl (fun i hi => ?_)
      have := h i hi
      rw [e] at this
      rcases pb_c p m (sd p m q n i) with ⟨e', k⟩ | ⟨e', k⟩ | ⟨e', k⟩
      · exact k
      · rw [e'] at this; omega
      · rw [e'] at this; omega
    · refine Or.inr (fun i hi => ?_)
      have := h i hi
      rw [e] at this
      rcases pb_c p m (sd p m q n i) with ⟨e', k⟩ | ⟨e', k⟩ | ⟨e', k⟩
      · rw [e'] at this; omega
      · exact k.1
      · rw [e'] at this; omega
    · exact absurd e h0
theorem apt_in (p : Nat → Int) (m : Nat) (q : Nat → Int) (n : Nat) : 0 ≤ apt p m q n ∧ apt p m q n ≤ 3 := by
  unfold apt ifp
  repeat' split
  all_goals omega
theorem trn_in (p : Nat → Int) (m : Nat) (q : Nat → Int) (n : Nat) : trn p m q n = 1 ∨ trn p m q n = -1 ∨ trn p m q n = 0 := by
  unfold trn ifp
  repeat' split
  all_goals omega
theorem t_X4_placeByBand {N a m : Nat} {p : Nat → Int} {s : Int} {M : zMem} {Q : Int32 → zMem → Prop} (hp : pOk p) (h1 : 1 ≤ m) (h2 : m < 64) (hD : RD p a m M) (hs : -695784701952 ≤ s ∧ s ≤ 695784701952) (hQ : Q (iI (pb p m s)) M) : f_X4_placeByBand N a (iI m) (lI s) M Q := by
  unfold f_X4_placeByBand
  have b1 := bL_bd hp h1 h2
  have b2 := bH_bd hp h1 h2
  simp (disch := omega) only [zrdJ_iI, iI_m1, iI_0, iI_1, iI_2, iI_3, iI_4, iI_5, iI_6, iI_7, iI_8, iI_9, iI_10, iI_11, iI_12, iI_13, iI_16, iI_18, iI_20, iI_24, iI_31, iI_32, iI_33, iI_36, iI_48, iI_57, iI_59, iI_63, iI_64, iI_97, iI_100, iI_101, iI_130, iI_255, iI_256, iI_512, iI_1000, iI_1009, iI_2000, iI_2048, iI_32768, iI_2147483647, iI_add, iI_sub, iI_mul, iI_neg, iI_lt, iI_le, iI_eq, iI_in]
  rw [show ((m : Int)).toNat = m by omega, hD.1, hD.2, lI_le (by omega) (by omega) (by omega) (by omega), lI_le (by omega) (by omega) (by omega) (by omega)]
  refine ⟨by omega, fun c => ⟨by omega, fun c2 => ?_, fun c2 => ?_⟩, fun c => ?_⟩
  · rw [show pb p m s = 0 by unfold pb; rw [if_neg (by omega), if_neg (by omega)]] at hQ
    exact hQ
  · rw [show pb p m s = -1 by unfold pb; rw [if_neg (by omega), if_pos (by omega)]] at hQ
    exact hQ
  · rw [show pb p m s = 1 by unfold pb; rw [if_pos (by omega)]] at hQ
    exact hQ
theorem l_X4_clears {N a b m n : Nat} {p q : Nat → Int} {M : zMem} {Q : Int32 → zMem → Prop} (hp : pOk p) (hq : pOk q) (h1 : 1 ≤ m) (h2 : m < 64) (h3 : 1 ≤ n) (h4 : n < 64) (hR : RN p a m M) (hR2 : RN q b n M) (hD : RD p a m M) (hQ1 : clr p m q n → Q (iI 1) M) (hQ0 : ¬ clr p m q n → Q (iI 0) M) : ∀ (k j : Nat), 1 ≤ j → j ≤ 4 → 5 ≤ j + k → (∀ i, i < j → pb p m (sd p m q n i) = pb p m (sd p m q n 0)) → f_X4_clears_l18 N a (iI m) b (iI n) (iI (pb p m (sd p m q n 0))) Q k (iI j) M := by
  intro k
  induction k with
  | zero => intro j a1 a2 a3; omega
  | succ k ih =>
    intro j a1 a2 a3 hj
    show f_X4_clears_b18 N (f_X4_clears_l18 N a (iI m) b (iI n) (iI (pb p m (sd p m q n 0))) Q k) a (iI m) b (iI n) (iI (pb p m (sd p m q n 0))) (iI j) M Q
    have hb : pb p m (sd p m q n 0) = 1 ∨ pb p m (sd p m q n 0) = -1 ∨ pb p m (sd p m q n 0) = 0 := by rcases pb_c p m (sd p m q n 0) with h | h | h <;> omega
    unfold f_X4_clears_b18 f_X4_clears_b56
    refine ⟨fun c => ?_, fun c => ?_⟩
    · simp (disch := omega) only [iI_m1, iI_0, iI_1, iI_2, iI_3, iI_4, iI_5, iI_6, iI_7, iI_8, iI_9, iI_10, iI_11, iI_12, iI_13, iI_16, iI_18, iI_20, iI_24, iI_31, iI_32, iI_33, iI_36, iI_48, iI_57, iI_59, iI_63, iI_64, iI_97, iI_100, iI_101, iI_130, iI_255, iI_256, iI_512, iI_1000, iI_1009, iI_2000, iI_2048, iI_32768, iI_2147483647, iI_add, iI_sub, iI_mul, iI_neg, iI_lt, iI_le, iI_eq, iI_in] at c
      obtain rfl : j = 4 := by omega
      refine ⟨fun c2 => hQ0 (fun hc => ?_), fun c2 => hQ1 ?_⟩
      · simp (disch := omega) only [iI_m1, iI_0, iI_1, iI_2, iI_3, iI_4, iI_5, iI_6, iI_7, iI_8, iI_9, iI_10, iI_11, iI_12, iI_13, iI_16, iI_18, iI_20, iI_24, iI_31, iI_32, iI_33, iI_36, iI_48, iI_57, iI_59, iI_63, iI_64, iI_97, iI_100, iI_101, iI_130, iI_255, iI_256, iI_512, iI_1000, iI_1009, iI_2000, iI_2048, iI_32768, iI_2147483647, iI_add, iI_sub, iI_mul, iI_neg, iI_lt, iI_le, iI_eq, iI_in] at c2
        exact ((clr_iff hp h1 h2).mp hc).1 c2
      · refine (clr_iff hp h1 h2).mpr ⟨fun e => c2 (by rw [e]; rfl), hj⟩
    · simp (disch := omega) only [iI_m1, iI_0, iI_1, iI_2, iI_3, iI_4, iI_5, iI_6, iI_7, iI_8, iI_9, iI_10, iI_11, iI_12, iI_13, iI_16, iI_18, iI_20, iI_24, iI_31, iI_32, iI_33, iI_36, iI_48, iI_57, iI_59, iI_63, iI_64, iI_97, iI_100, iI_101, iI_130, iI_255, iI_256, iI_512, iI_1000, iI_1009, iI_2000, iI_2048, iI_32768, iI_2147483647, iI_add, iI_sub, iI_mul, iI_neg, iI_lt, iI_le, iI_eq, iI_in] at c
      refine ⟨fun c2 => ?_, fun c2 => ?_⟩
      · have c3 := c2
        simp (disch := omega) only [iI_m1, iI_0, iI_1, iI_2, iI_3, iI_4, iI_5, iI_6, iI_7, iI_8, iI_9, iI_10, iI_11, iI_12, iI_13, iI_16, iI_18, iI_20, iI_24, iI_31, iI_32, iI_33, iI_36, iI_48, iI_57, iI_59, iI_63, iI_64, iI_97, iI_100, iI_101, iI_130, iI_255, iI_256, iI_512, iI_1000, iI_1009, iI_2000, iI_2048, iI_32768, iI_2147483647, iI_add, iI_sub, iI_mul, iI_neg, iI_lt, iI_le, iI_eq, iI_in] at c3
        exact ⟨fun _ => hQ0 (fun hc => ((clr_iff hp h1 h2).mp hc).1 c3), fun c4 => absurd c2 c4⟩
      · refine t_X4_side hp hq h1 h2 h3 h4 (by omega) hR hR2 ?_
        refine t_X4_placeByBand hp h1 h2 hD (sd_bd hp hq h1 h2 h3 h4) ?_
        have hb2 : pb p m (sd p m q n j) = 1 ∨ pb p m (sd p m q n j) = -1 ∨ pb p m (sd p m q n j) = 0 := by rcases pb_c p m (sd p m q n j) with h | h | h <;> omega
        refine ⟨fun c3 v e => ?_, fun c3 => ?_⟩
        · simp (disch := omega) only [iI_m1, iI_0, iI_1, iI_2, iI_3, iI_4, iI_5, iI_6, iI_7, iI_8, iI_9, iI_10, iI_11, iI_12, iI_13, iI_16, iI_18, iI_20, iI_24, iI_31, iI_32, iI_33, iI_36, iI_48, iI_57, iI_59, iI_63, iI_64, iI_97, iI_100, iI_101, iI_130, iI_255, iI_256, iI_512, iI_1000, iI_1009, iI_2000, iI_2048, iI_32768, iI_2147483647, iI_add, iI_sub, iI_mul, iI_neg, iI_lt, iI_le, iI_eq, iI_in] at c3
          simp (disch := omega) only [iI_m1, iI_0, iI_1, iI_2, iI_3, iI_4, iI_5, iI_6, iI_7, iI_8, iI_9, iI_10, iI_11, iI_12, iI_13, iI_16, iI_18, iI_20, iI_24, iI_31, iI_32, iI_33, iI_36, iI_48, iI_57, iI_59, iI_63, iI_64, iI_97, iI_100, iI_101, iI_130, iI_255, iI_256, iI_512, iI_1000, iI_1009, iI_2000, iI_2048, iI_32768, iI_2147483647, iI_add, iI_sub, iI_mul, iI_neg, iI_lt, iI_le, iI_eq, iI_in] at e
          subst e
          refine ih (j + 1) (by omega) (by omega) (by omega) ?_
          intro i hi
          by_cases hij : i = j
          · rw [hij]; exact c3
          · exact hj i (by omega)
        · simp (disch := omega) only [iI_m1, iI_0, iI_1, iI_2, iI_3, iI_4, iI_5, iI_6, iI_7, iI_8, iI_9, iI_10, iI_11, iI_12, iI_13, iI_16, iI_18, iI_20, iI_24, iI_31, iI_32, iI_33, iI_36, iI_48, iI_57, iI_59, iI_63, iI_64, iI_97, iI_100, iI_101, iI_130, iI_255, iI_256, iI_512, iI_1000, iI_1009, iI_2000, iI_2048, iI_32768, iI_2147483647, iI_add, iI_sub, iI_mul, iI_neg, iI_lt, iI_le, iI_eq, iI_in] at c3
          exact hQ0 (fun hc => c3 (((clr_iff hp h1 h2).mp hc).2 j (by omega)))
theorem t_X4_clears {N a b m n : Nat} {p q : Nat → Int} {M : zMem} {Q : Int32 → zMem → Prop} (hN : 100 ≤ N) (hA : RA p a M) (hB : RA q b M) (h1 : 1 ≤ m) (h2 : m < 64) (h3 : 1 ≤ n) (h4 : n < 64) (hQ1 : clr p m q n → Q (iI 1) M) (hQ0 : ¬ clr p m q n → Q (iI 0) M) : f_X4_clears N a (iI m) b (iI n) M Q := by
  unfold f_X4_clears
  refine t_X4_side (i := 0) hA.1 hB.1 h1 h2 h3 h4 (by decide) (hA.2.2.1 m h1 h2) (hB.2.2.1 n h3 h4) ?_
  refine t_X4_placeByBand hA.1 h1 h2 (hA.2.2.2.2 m h1 h2) (sd_bd hA.1 hB.1 h1 h2 h3 h4) ?_
  refine l_X4_clears hA.1 hB.1 h1 h2 h3 h4 (hA.2.2.1 m h1 h2) (hB.2.2.1 n h3 h4) (hA.2.2.2.2 m h1 h2) hQ1 hQ0 N 1 (by decide) (by decide) (by omega) ?_
  intro i hi
  rw [show i = 0 by omega]
theorem t_X4_boxesApart {N a b m n ax : Nat} {p q : Nat → Int} {M : zMem} {Q : Int32 → zMem → Prop} (hA : RA p a M) (hB : RA q b M) (h1 : 1 ≤ m) (h2 : m < 64) (h3 : 1 ≤ n) (h4 : n < 64) (hax : ax < 2) (hQ1 : bxA p m q n ax → Q (iI 1) M) (hQ0 : ¬ bxA p m q n ax → Q (iI 0) M) : f_X4_boxesApart N a (iI m) b (iI n) (iI ax) M Q := by
  unfold f_X4_boxesApart
  have b1 := bx_bd hA.1 h1 h2 hax
  have b2 := bn_bd hA.1 h1 h2 hax
  have b3 := bx_bd hB.1 h3 h4 hax
  have b4 := bn_bd hB.1 h3 h4 hax
  have rA := hA.2.2.2.1 m ax h1 h2 hax
  have rB := hB.2.2.2.1 n ax h3 h4 hax
  refine t_X0_greatest h2 hax rA ?_
  refine t_X0_least h4 hax rB ?_
  refine ⟨fun c => ?_, fun c => ?_⟩
  · simp (disch := omega) only [iI_m1, iI_0, iI_1, iI_2, iI_3, iI_4, iI_5, iI_6, iI_7, iI_8, iI_9, iI_10, iI_11, iI_12, iI_13, iI_16, iI_18, iI_20, iI_24, iI_31, iI_32, iI_33, iI_36, iI_48, iI_57, iI_59, iI_63, iI_64, iI_97, iI_100, iI_101, iI_130, iI_255, iI_256, iI_512, iI_1000, iI_1009, iI_2000, iI_2048, iI_32768, iI_2147483647, iI_add, iI_sub, iI_mul, iI_neg, iI_lt, iI_le, iI_eq, iI_in] at c
    exact hQ1 (Or.inl c)
  · simp (disch := omega) only [iI_m1, iI_0, iI_1, iI_2, iI_3, iI_4, iI_5, iI_6, iI_7, iI_8, iI_9, iI_10, iI_11, iI_12, iI_13, iI_16, iI_18, iI_20, iI_24, iI_31, iI_32, iI_33, iI_36, iI_48, iI_57, iI_59, iI_63, iI_64, iI_97, iI_100, iI_101, iI_130, iI_255, iI_256, iI_512, iI_1000, iI_1009, iI_2000, iI_2048, iI_32768, iI_2147483647, iI_add, iI_sub, iI_mul, iI_neg, iI_lt, iI_le, iI_eq, iI_in] at c
    refine t_X0_greatest h4 hax rB ?_
    refine t_X0_least h2 hax rA ?_
    refine ⟨fun c2 => ?_, fun c2 => ?_⟩
    · simp (disch := omega) only [iI_m1, iI_0, iI_1, iI_2, iI_3, iI_4, iI_5, iI_6, iI_7, iI_8, iI_9, iI_10, iI_11, iI_12, iI_13, iI_16, iI_18, iI_20, iI_24, iI_31, iI_32, iI_33, iI_36, iI_48, iI_57, iI_59, iI_63, iI_64, iI_97, iI_100, iI_101, iI_130, iI_255, iI_256, iI_512, iI_1000, iI_1009, iI_2000, iI_2048, iI_32768, iI_2147483647, iI_add, iI_sub, iI_mul, iI_neg, iI_lt, iI_le, iI_eq, iI_in] at c2
      exact hQ0 (fun h => by rcases h with h | h <;> omega)
    · simp (disch := omega) only [iI_m1, iI_0, iI_1, iI_2, iI_3, iI_4, iI_5, iI_6, iI_7, iI_8, iI_9, iI_10, iI_11, iI_12, iI_13, iI_16, iI_18, iI_20, iI_24, iI_31, iI_32, iI_33, iI_36, iI_48, iI_57, iI_59, iI_63, iI_64, iI_97, iI_100, iI_101, iI_130, iI_255, iI_256, iI_512, iI_1000, iI_1009, iI_2000, iI_2048, iI_32768, iI_2147483647, iI_add, iI_sub, iI_mul, iI_neg, iI_lt, iI_le, iI_eq, iI_in] at c2
      exact hQ1 (Or.inr (by omega))
theorem t_X4_whyApart {N a b m n : Nat} {p q : Nat → Int} {M : zMem} {Q : Int32 → zMem → Prop} (hN : 100 ≤ N) (hA : RA p a M) (hB : RA q b M) (h1 : 1 ≤ m) (h2 : m < 64) (h3 : 1 ≤ n) (h4 : n < 64) (hQ : Q (iI (apt p m q n)) M) : f_X4_whyApart N a (iI m) b (iI n) M Q := by
  unfold f_X4_whyApart
  refine t_X4_boxesApart (ax := 0) hA hB h1 h2 h3 h4 (by decide) (fun k => ?_) (fun k => ?_)
  · refine ⟨fun _ => ?_, fun c => absurd c (by decide)⟩
    rw [show apt p m q n = 1 from ifp_t (Or.inl k)] at hQ
    exact hQ
  · refine ⟨fun c => absurd rfl c, fun _ => ?_⟩
    refine t_X4_boxesApart (ax := 1) hA hB h1 h2 h3 h4 (by decide) (fun k2 => ?_) (fun k2 => ?_)
    · refine ⟨fun c => absurd c (by decide), fun _ => ?_⟩
      rw [show apt p m q n = 1 from ifp_t (Or.inr k2)] at hQ
      exact hQ
    · have hk : ¬ (bxA p m q n 0 ∨ bxA p m q n 1) := fun h => h.elim k k2
      refine ⟨fun _ => ?_, fun c => absurd rfl c⟩
      refine t_X4_clears hN hA hB h1 h2 h3 h4 (fun k3 => ?_) (fun k3 => ?_)
      · refine ⟨fun c => absurd c (by decide), fun _ => ?_⟩
        rw [show apt p m q n = 2 by unfold apt; rw [ifp_f hk, ifp_t k3]] at hQ
        exact hQ
      · refine ⟨fun _ => ?_, fun c => absurd rfl c⟩
        refine t_X4_clears hN hB hA h3 h4 h1 h2 (fun k4 => ?_) (fun k4 => ?_)
        · refine ⟨fun c => absurd c (by decide), fun _ => ?_⟩
          rw [show apt p m q n = 3 by unfold apt; rw [ifp_f hk, ifp_f k3, ifp_t k4]] at hQ
          exact hQ
        · refine ⟨fun _ => ?_, fun c => absurd rfl c⟩
          rw [show apt p m q n = 0 by unfold apt; rw [ifp_f hk, ifp_f k3, ifp_f k4]] at hQ
          exact hQ
theorem crs_bd {p q : Nat → Int} (hp : pOk p) (hq : pOk q) {m n i j : Nat} (h1 : 1 ≤ m) (h2 : m < 64) (h3 : 1 ≤ n) (h4 : n < 64) : -695784701952 ≤ crs p m i q n j ∧ crs p m i q n j ≤ 695784701952 := by
  have a0 := nd_bd hp (i := i) (ax := 0) h1 h2 (by decide)
  have a1 := nd_bd hp (i := i) (ax := 1) h1 h2 (by decide)
  have b0 := nd_bd hp (i := i + 1) (ax := 0) h1 h2 (by decide)
  have b1 := nd_bd hp (i := i + 1) (ax := 1) h1 h2 (by decide)
  have c0 := nd_bd hq (i := j) (ax := 0) h3 h4 (by decide)
  have c1 := nd_bd hq (i := j) (ax := 1) h3 h4 (by decide)
  have d0 := nd_bd hq (i := j + 1) (ax := 0) h3 h4 (by decide)
  have d1 := nd_bd hq (i := j + 1) (ax := 1) h3 h4 (by decide)
  have e1 := mul_bd (x := nd p m (i + 1) 0 - nd p m i 0) (y := nd q n (j + 1) 1 - nd q n j 1) (A := 589824) (B := 589824) (by decide) (by omega) (by omega)
  have e2 := mul_bd (x := nd p m (i + 1) 1 - nd p m i 1) (y := nd q n (j + 1) 0 - nd q n j 0) (A := 589824) (B := 589824) (by decide) (by omega) (by omega)
  unfold crs
  omega
theorem t_X4_crossOfSteps {N a b m n i j : Nat} {p q : Nat → Int} {M : zMem} {Q : Int64 → zMem → Prop} (hA : RA p a M) (hB : RA q b M) (h1 : 1 ≤ m) (h2 : m < 64) (h3 : 1 ≤ n) (h4 : n < 64) (hi : i < 3) (hj : j < 3) (hQ : Q (lI (crs p m i q n j)) M) : f_X4_crossOfSteps N a (iI m) (iI i) b (iI n) (iI j) M Q := by
  unfold f_X4_crossOfSteps
  have a0 := nd_bd hA.1 (i := i) (ax := 0) h1 h2 (by decide)
  have a1 := nd_bd hA.1 (i := i) (ax := 1) h1 h2 (by decide)
  have b0 := nd_bd hA.1 (i := i + 1) (ax := 0) h1 h2 (by decide)
  have b1 := nd_bd hA.1 (i := i + 1) (ax := 1) h1 h2 (by decide)
  have c0 := nd_bd hB.1 (i := j) (ax := 0) h3 h4 (by decide)
  have c1 := nd_bd hB.1 (i := j) (ax := 1) h3 h4 (by decide)
  have d0 := nd_bd hB.1 (i := j + 1) (ax := 0) h3 h4 (by decide)
  have d1 := nd_bd hB.1 (i := j + 1) (ax := 1) h3 h4 (by decide)
  have rA := hA.2.2.1 m h1 h2
  have rB := hB.2.2.1 n h3 h4
  refine t_X0_step (ax := 0) h2 hi (by decide) rA ?_
  refine t_X0_step (ax := 1) h4 hj (by decide) rB ?_
  refine t_X0_step (ax := 1) h2 hi (by decide) rA ?_
  refine t_X0_step (ax := 0) h4 hj (by decide) rB ?_
  rw [iI_l (by omega) (by omega), iI_l (by omega) (by omega), iI_l (by omega) (by omega), iI_l (by omega) (by omega), lI_mul, lI_mul, lI_sub]
  exact hQ
def sgn (z : Int) : Int := if 0 < z then 1 else if z < 0 then -1 else 0
theorem sgn_c (z : Int) : (sgn z = 1 ∧ 0 < z) ∨ (sgn z = -1 ∧ z < 0) ∨ (sgn z = 0 ∧ z = 0) := by
  unfold sgn
  split
  · exact Or.inl ⟨rfl, by assumption⟩
  · split
    · exact Or.inr (Or.inl ⟨rfl, by assumption⟩)
    · exact Or.inr (Or.inr ⟨rfl, by omega⟩)
theorem t_X4_sign {N : Nat} {z : Int} {M : zMem} {Q : Int32 → zMem → Prop} (hz : -695784701952 ≤ z ∧ z ≤ 695784701952) (hQ : Q (iI (sgn z)) M) : f_X4_sign N (lI z) M Q := by
  unfold f_X4_sign
  rw [lI_0, lI_le (by omega) (by omega) (by decide) (by decide), lI_le (by decide) (by decide) (by omega) (by omega)]
  rcases sgn_c z with ⟨e, k⟩ | ⟨e, k⟩ | ⟨e, k⟩ <;> rw [e] at hQ
  · exact ⟨fun c => by omega, fun _ => hQ⟩
  · exact ⟨fun _ => ⟨fun c => by omega, fun _ => hQ⟩, fun c => by omega⟩
  · exact ⟨fun _ => ⟨fun _ => hQ, fun c => by omega⟩, fun c => by omega⟩
theorem trn_of {p q : Nat → Int} {m n : Nat} (h : ∀ i j, i < 3 → j < 3 → sgn (crs p m i q n j) = sgn (crs p m 0 q n 0)) : trn p m q n = sgn (crs p m 0 q n 0) := by
  unfold trn
  rcases sgn_c (crs p m 0 q n 0) with ⟨e, k⟩ | ⟨e, k⟩ | ⟨e, k⟩
  · rw [ifp_t, e]
    intro i j hi hj
    have := h i j hi hj
    rw [e] at this
    rcases sgn_c (crs p m i q n j) with ⟨e', k'⟩ | ⟨e', k'⟩ | ⟨e', k'⟩ <;> omega
  · rw [ifp_f, ifp_t, e]
    · intro i j hi hj
      have := h i j hi hj
      rw [e] at this
      rcases sgn_c (crs p m i q n j) with ⟨e', k'⟩ | ⟨e', k'⟩ | ⟨e', k'⟩ <;> omega
    · intro hc
      have := hc 0 0 (by decide) (by decide)
      omega
  · rw [ifp_f, ifp_f, e]
    · intro hc
      have := hc 0 0 (by decide) (by decide)
      omega
    · intro hc
      have := hc 0 0 (by decide) (by decide)
      omega
theorem trn_not {p q : Nat → Int} {m n i j : Nat} (hi : i < 3) (hj : j < 3) (h : sgn (crs p m i q n j) ≠ sgn (crs p m 0 q n 0)) : trn p m q n = 0 := by
  unfold trn
  rw [ifp_f, ifp_f]
  · intro hc
    have h1 := hc i j hi hj
    have h2 := hc 0 0 (by decide) (by decide)
    rcases sgn_c (crs p m i q n j) with ⟨e', k'⟩ | ⟨e', k'⟩ | ⟨e', k'⟩ <;> rcases sgn_c (crs p m 0 q n 0) with ⟨e, k⟩ | ⟨e, k⟩ | ⟨e, k⟩ <;> omega
  · intro hc
    have h1 := hc i j hi hj
    have h2 := hc 0 0 (by decide) (by decide)
    rcases sgn_c (crs p m i q n j) with ⟨e', k'⟩ | ⟨e', k'⟩ | ⟨e', k'⟩ <;> rcases sgn_c (crs p m 0 q n 0) with ⟨e, k⟩ | ⟨e, k⟩ | ⟨e, k⟩ <;> omega
theorem trn_z {p q : Nat → Int} {m n : Nat} (h : sgn (crs p m 0 q n 0) = 0) : trn p m q n = 0 := by
  unfold trn
  rcases sgn_c (crs p m 0 q n 0) with ⟨e, k⟩ | ⟨e, k⟩ | ⟨e, k⟩
  · omega
  · omega
  · rw [ifp_f, ifp_f]
    · intro hc
      have := hc 0 0 (by decide) (by decide)
      omega
    · intro hc
      have := hc 0 0 (by decide) (by decide)
      omega
theorem l_X4_wayOfTurn_31 {N a b m n i : Nat} {p q : Nat → Int} {M : zMem} {k17 : Int32 → zMem → Prop} {Q : Int32 → zMem → Prop} (hA : RA p a M) (hB : RA q b M) (h1 : 1 ≤ m) (h2 : m < 64) (h3 : 1 ≤ n) (h4 : n < 64) (hi : i < 3) (hQ : Q (iI (trn p m q n)) M) (hk : (∀ j, j < 3 → sgn (crs p m i q n j) = sgn (crs p m 0 q n 0)) → k17 (iI ((i + 1 : Nat) : Int)) M) : ∀ (k j : Nat), j ≤ 3 → 4 ≤ j + k → (∀ j', j' < j → sgn (crs p m i q n j') = sgn (crs p m 0 q n 0)) → f_X4_wayOfTurn_l31 N k17 a (iI m) b (iI n) (iI (sgn (crs p m 0 q n 0))) (iI i) Q k (iI j) M := by
  intro k
  induction k with
  | zero => intro j a1 a2; omega
  | succ k ih =>
    intro j a1 a2 hj
    show f_X4_wayOfTurn_b31 N k17 (f_X4_wayOfTurn_l31 N k17 a (iI m) b (iI n) (iI (sgn (crs p m 0 q n 0))) (iI i) Q k) a (iI m) b (iI n) (iI (sgn (crs p m 0 q n 0))) (iI i) (iI j) M Q
    unfold f_X4_wayOfTurn_b31
    refine ⟨fun c v e => ?_, fun c => ?_⟩
    · simp (disch := omega) only [iI_m1, iI_0, iI_1, iI_2, iI_3, iI_4, iI_5, iI_6, iI_7, iI_8, iI_9, iI_10, iI_11, iI_12, iI_13, iI_16, iI_18, iI_20, iI_24, iI_31, iI_32, iI_33, iI_36, iI_48, iI_57, iI_59, iI_63, iI_64, iI_97, iI_100, iI_101, iI_130, iI_255, iI_256, iI_512, iI_1000, iI_1009, iI_2000, iI_2048, iI_32768, iI_2147483647, iI_add, iI_sub, iI_mul, iI_neg, iI_lt, iI_le, iI_eq, iI_in] at c
      simp (disch := omega) only [iI_m1, iI_0, iI_1, iI_2, iI_3, iI_4, iI_5, iI_6, iI_7, iI_8, iI_9, iI_10, iI_11, iI_12, iI_13, iI_16, iI_18, iI_20, iI_24, iI_31, iI_32, iI_33, iI_36, iI_48, iI_57, iI_59, iI_63, iI_64, iI_97, iI_100, iI_101, iI_130, iI_255, iI_256, iI_512, iI_1000, iI_1009, iI_2000, iI_2048, iI_32768, iI_2147483647, iI_add, iI_sub, iI_mul, iI_neg, iI_lt, iI_le, iI_eq, iI_in] at e
      subst e
      exact hk (fun j' h => hj j' (by omega))
    · simp (disch := omega) only [iI_m1, iI_0, iI_1, iI_2, iI_3, iI_4, iI_5, iI_6, iI_7, iI_8, iI_9, iI_10, iI_11, iI_12, iI_13, iI_16, iI_18, iI_20, iI_24, iI_31, iI_32, iI_33, iI_36, iI_48, iI_57, iI_59, iI_63, iI_64, iI_97, iI_100, iI_101, iI_130, iI_255, iI_256, iI_512, iI_1000, iI_1009, iI_2000, iI_2048, iI_32768, iI_2147483647, iI_add, iI_sub, iI_mul, iI_neg, iI_lt, iI_le, iI_eq, iI_in] at c
      refine t_X4_crossOfSteps hA hB h1 h2 h3 h4 hi (by omega) ?_
      refine t_X4_sign (crs_bd hA.1 hB.1 h1 h2 h3 h4) ?_
      have s1 : sgn (crs p m i q n j) = 1 ∨ sgn (crs p m i q n j) = -1 ∨ sgn (crs p m i q n j) = 0 := by rcases sgn_c (crs p m i q n j) with h | h | h <;> omega
      have s2 : sgn (crs p m 0 q n 0) = 1 ∨ sgn (crs p m 0 q n 0) = -1 ∨ sgn (crs p m 0 q n 0) = 0 := by rcases sgn_c (crs p m 0 q n 0) with h | h | h <;> omega
      refine ⟨fun c2 v e => ?_, fun c2 => ?_⟩
      · simp (disch := omega) only [iI_m1, iI_0, iI_1, iI_2, iI_3, iI_4, iI_5, iI_6, iI_7, iI_8, iI_9, iI_10, iI_11, iI_12, iI_13, iI_16, iI_18, iI_20, iI_24, iI_31, iI_32, iI_33, iI_36, iI_48, iI_57, iI_59, iI_63, iI_64, iI_97, iI_100, iI_101, iI_130, iI_255, iI_256, iI_512, iI_1000, iI_1009, iI_2000, iI_2048, iI_32768, iI_2147483647, iI_add, iI_sub, iI_mul, iI_neg, iI_lt, iI_le, iI_eq, iI_in] at c2
        simp (disch := omega) only [iI_m1, iI_0, iI_1, iI_2, iI_3, iI_4, iI_5, iI_6, iI_7, iI_8, iI_9, iI_10, iI_11, iI_12, iI_13, iI_16, iI_18, iI_20, iI_24, iI_31, iI_32, iI_33, iI_36, iI_48, iI_57, iI_59, iI_63, iI_64, iI_97, iI_100, iI_101, iI_130, iI_255, iI_256, iI_512, iI_1000, iI_1009, iI_2000, iI_2048, iI_32768, iI_2147483647, iI_add, iI_sub, iI_mul, iI_neg, iI_lt, iI_le, iI_eq, iI_in] at e
        subst e
        refine ih (j + 1) (by omega) (by omega) ?_
        intro j' hj'
        by_cases hjj : j' = j
        · rw [hjj]; exact c2
        · exact hj j' (by omega)
      · simp (disch := omega) only [iI_m1, iI_0, iI_1, iI_2, iI_3, iI_4, iI_5, iI_6, iI_7, iI_8, iI_9, iI_10, iI_11, iI_12, iI_13, iI_16, iI_18, iI_20, iI_24, iI_31, iI_32, iI_33, iI_36, iI_48, iI_57, iI_59, iI_63, iI_64, iI_97, iI_100, iI_101, iI_130, iI_255, iI_256, iI_512, iI_1000, iI_1009, iI_2000, iI_2048, iI_32768, iI_2147483647, iI_add, iI_sub, iI_mul, iI_neg, iI_lt, iI_le, iI_eq, iI_in] at c2
        rw [trn_not hi (show j < 3 by omega) c2] at hQ
        exact hQ
theorem l_X4_wayOfTurn_17 {N a b m n : Nat} {p q : Nat → Int} {M : zMem} {Q : Int32 → zMem → Prop} (hN : 100 ≤ N) (hA : RA p a M) (hB : RA q b M) (h1 : 1 ≤ m) (h2 : m < 64) (h3 : 1 ≤ n) (h4 : n < 64) (hQ : Q (iI (trn p m q n)) M) : ∀ (k i : Nat), i ≤ 3 → 4 ≤ i + k → (∀ i' j, i' < i → j < 3 → sgn (crs p m i' q n j) = sgn (crs p m 0 q n 0)) → f_X4_wayOfTurn_l17 N a (iI m) b (iI n) (iI (sgn (crs p m 0 q n 0))) Q k (iI i) M := by
  intro k
  induction k with
  | zero => intro i a1 a2; omega
  | succ k ih =>
    intro i a1 a2 hi
    show f_X4_wayOfTurn_b17 N (f_X4_wayOfTurn_l17 N a (iI m) b (iI n) (iI (sgn (crs p m 0 q n 0))) Q k) a (iI m) b (iI n) (iI (sgn (crs p m 0 q n 0))) (iI i) M Q
    have s2 : sgn (crs p m 0 q n 0) = 1 ∨ sgn (crs p m 0 q n 0) = -1 ∨ sgn (crs p m 0 q n 0) = 0 := by rcases sgn_c (crs p m 0 q n 0) with h | h | h <;> omega
    unfold f_X4_wayOfTurn_b17
    refine ⟨fun c => ?_, fun c => ⟨fun c2 => ?_, fun c2 => ?_⟩⟩
    · simp (disch := omega) only [iI_m1, iI_0, iI_1, iI_2, iI_3, iI_4, iI_5, iI_6, iI_7, iI_8, iI_9, iI_10, iI_11, iI_12, iI_13, iI_16, iI_18, iI_20, iI_24, iI_31, iI_32, iI_33, iI_36, iI_48, iI_57, iI_59, iI_63, iI_64, iI_97, iI_100, iI_101, iI_130, iI_255, iI_256, iI_512, iI_1000, iI_1009, iI_2000, iI_2048, iI_32768, iI_2147483647, iI_add, iI_sub, iI_mul, iI_neg, iI_lt, iI_le, iI_eq, iI_in] at c
      rw [trn_of (fun i' j a b => hi i' j (by omega) b)] at hQ
      exact hQ
    · simp (disch := omega) only [iI_m1, iI_0, iI_1, iI_2, iI_3, iI_4, iI_5, iI_6, iI_7, iI_8, iI_9, iI_10, iI_11, iI_12, iI_13, iI_16, iI_18, iI_20, iI_24, iI_31, iI_32, iI_33, iI_36, iI_48, iI_57, iI_59, iI_63, iI_64, iI_97, iI_100, iI_101, iI_130, iI_255, iI_256, iI_512, iI_1000, iI_1009, iI_2000, iI_2048, iI_32768, iI_2147483647, iI_add, iI_sub, iI_mul, iI_neg, iI_lt, iI_le, iI_eq, iI_in] at c2
      rw [trn_z c2] at hQ
      rw [c2]
      exact hQ
    · simp (disch := omega) only [iI_m1, iI_0, iI_1, iI_2, iI_3, iI_4, iI_5, iI_6, iI_7, iI_8, iI_9, iI_10, iI_11, iI_12, iI_13, iI_16, iI_18, iI_20, iI_24, iI_31, iI_32, iI_33, iI_36, iI_48, iI_57, iI_59, iI_63, iI_64, iI_97, iI_100, iI_101, iI_130, iI_255, iI_256, iI_512, iI_1000, iI_1009, iI_2000, iI_2048, iI_32768, iI_2147483647, iI_add, iI_sub, iI_mul, iI_neg, iI_lt, iI_le, iI_eq, iI_in] at c
      refine l_X4_wayOfTurn_31 hA hB h1 h2 h3 h4 (by omega) hQ ?_ N 0 (by omega) (by omega) (fun j' h => by omega)
      intro hj
      refine ih (i + 1) (by omega) (by omega) ?_
      intro i' j hi' hj'
      by_cases hii : i' = i
      · rw [hii]; exact hj j hj'
      · exact hi i' j (by omega) hj'
theorem t_X4_wayOfTurn {N a b m n : Nat} {p q : Nat → Int} {M : zMem} {Q : Int32 → zMem → Prop} (hN : 100 ≤ N) (hA : RA p a M) (hB : RA q b M) (h1 : 1 ≤ m) (h2 : m < 64) (h3 : 1 ≤ n) (h4 : n < 64) (hQ : Q (iI (trn p m q n)) M) : f_X4_wayOfTurn N a (iI m) b (iI n) M Q := by
  unfold f_X4_wayOfTurn
  refine t_X4_crossOfSteps (i := 0) (j := 0) hA hB h1 h2 h3 h4 (by decide) (by decide) ?_
  refine t_X4_sign (crs_bd hA.1 hB.1 h1 h2 h3 h4) ?_
  exact l_X4_wayOfTurn_17 hN hA hB h1 h2 h3 h4 hQ N 0 (by omega) (by omega) (fun i' j h => by omega)
theorem t_X4_endsBeside {N a b m n : Nat} {p q : Nat → Int} {M : zMem} {Q : Int32 → zMem → Prop} (hA : RA p a M) (hB : RA q b M) (h1 : 1 ≤ m) (h2 : m < 64) (h3 : 1 ≤ n) (h4 : n < 64) (hQ1 : acr p m q n → Q (iI 1) M) (hQ0 : ¬ acr p m q n → Q (iI 0) M) : f_X4_endsBeside N a (iI m) b (iI n) M Q := by
  unfold f_X4_endsBeside
  have b1 := bL_bd hA.1 h1 h2
  have b2 := bH_bd hA.1 h1 h2
  refine t_X4_side (i := 0) hA.1 hB.1 h1 h2 h3 h4 (by decide) (hA.2.2.1 m h1 h2) (hB.2.2.1 n h3 h4) ?_
  refine t_X4_placeByBand hA.1 h1 h2 (hA.2.2.2.2 m h1 h2) (sd_bd hA.1 hB.1 h1 h2 h3 h4) ?_
  refine t_X4_side (i := 3) hA.1 hB.1 h1 h2 h3 h4 (by decide) (hA.2.2.1 m h1 h2) (hB.2.2.1 n h3 h4) ?_
  refine t_X4_placeByBand hA.1 h1 h2 (hA.2.2.2.2 m h1 h2) (sd_bd hA.1 hB.1 h1 h2 h3 h4) ?_
  rcases pb_c p m (sd p m q n 0) with ⟨e, k⟩ | ⟨e, k⟩ | ⟨e, k⟩ <;> rcases pb_c p m (sd p m q n 3) with ⟨e', k'⟩ | ⟨e', k'⟩ | ⟨e', k'⟩ <;> rw [e, e']
  · exact ⟨fun _ => hQ0 (fun h => by rcases h with h | h <;> omega), fun c => absurd (by decide) c⟩
  · exact ⟨fun c => absurd c (by decide), fun _ => hQ1 (Or.inl ⟨k, k'.1⟩)⟩
  · exact ⟨fun _ => hQ0 (fun h => by rcases h with h | h <;> omega), fun c => absurd (by decide) c⟩
  · exact ⟨fun c => absurd c (by decide), fun _ => hQ1 (Or.inr ⟨k.1, k'⟩)⟩
  · exact ⟨fun _ => hQ0 (fun h => by rcases h with h | h <;> omega), fun c => absurd (by decide) c⟩
  · exact ⟨fun _ => hQ0 (fun h => by rcases h with h | h <;> omega), fun c => absurd (by decide) c⟩
  · exact ⟨fun _ => hQ0 (fun h => by rcases h with h | h <;> omega), fun c => absurd (by decide) c⟩
  · exact ⟨fun _ => hQ0 (fun h => by rcases h with h | h <;> omega), fun c => absurd (by decide) c⟩
  · exact ⟨fun _ => hQ0 (fun h => by rcases h with h | h <;> omega), fun c => absurd (by decide) c⟩
theorem t_X4_endsCross {N a b m n : Nat} {p q : Nat → Int} {M : zMem} {Q : Int32 → zMem → Prop} (hA : RA p a M) (hB : RA q b M) (h1 : 1 ≤ m) (h2 : m < 64) (h3 : 1 ≤ n) (h4 : n < 64) (hQ1 : acr p m q n ∧ acr q n p m → Q (iI 1) M) (hQ0 : ¬ (acr p m q n ∧ acr q n p m) → Q (iI 0) M) : f_X4_endsCross N a (iI m) b (iI n) M Q := by
  unfold f_X4_endsCross
  refine t_X4_endsBeside hA hB h1 h2 h3 h4 (fun k => ?_) (fun k => ?_)
  · refine ⟨fun c => absurd c (by decide), fun _ => ?_⟩
    refine t_X4_endsBeside hB hA h3 h4 h1 h2 (fun k2 => ?_) (fun k2 => ?_)
    · exact ⟨fun c => absurd c (by decide), fun _ => hQ1 ⟨k, k2⟩⟩
    · exact ⟨fun _ => hQ0 (fun h => k2 h.2), fun c => absurd rfl c⟩
  · exact ⟨fun _ => hQ0 (fun h => k h.1), fun c => absurd rfl c⟩
