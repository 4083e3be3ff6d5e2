/-! ===== bends and goes: both sides ===== -/
noncomputable def sg2 (p m : Prop) : Int := ifp p (ifp m 3 1) (ifp m 2 0)
theorem sg2_to {p m p' m' : Prop} (h1 : p ↔ p') (h2 : m ↔ m') : sg2 p m = sg2 p' m' := by rw [propext h1, propext h2]
theorem lI_mnn {a b : Int} (h1 : -9223372036854775808 ≤ a) (h2 : a < 9223372036854775808) (h3 : -9223372036854775808 ≤ b) (h4 : b < 9223372036854775808) : (if lI a < lI b then lI a else lI b) = lI (min a b) := by
  by_cases h : a < b
  · rw [if_pos (by rw [lI_lt h1 h2 h3 h4]; exact h)]; congr 1; omega
  · rw [if_neg (by rw [lI_lt h1 h2 h3 h4]; exact h)]; congr 1; omega
theorem lI_mxx {a b : Int} (h1 : -9223372036854775808 ≤ a) (h2 : a < 9223372036854775808) (h3 : -9223372036854775808 ≤ b) (h4 : b < 9223372036854775808) : (if lI b < lI a then lI a else lI b) = lI (max a b) := by
  by_cases h : b < a
  · rw [if_pos (by rw [lI_lt h3 h4 h1 h2]; exact h)]; congr 1; omega
  · rw [if_neg (by rw [lI_lt h3 h4 h1 h2]; exact h)]; congr 1; omega
theorem t_X7_whichSigns {N : Nat} {u v : Int} {M : zMem} {Q : Int32 → zMem → Prop} (hu : -9223372036854775808 ≤ u ∧ u < 9223372036854775808) (hv : -9223372036854775808 ≤ v ∧ v < 9223372036854775808) (huv : u ≤ v) (hQ : Q (iI (sg2 (0 < v) (u < 0))) M) : f_X7_whichSigns N (lI u) (lI v) M Q := by
  unfold f_X7_whichSigns
  have b14 : ¬ (u = 0 ∧ v = 0) → f_X7_whichSigns_b14 N (lI u) (lI v) M Q := by
    intro hne
    unfold f_X7_whichSigns_b14
    unfold sg2 at hQ
    rw [lI_0, lI_lt hu.1 hu.2 (by decide) (by decide), lI_lt (by decide) (by decide) hv.1 hv.2]
    refine ⟨fun c => ⟨fun c2 => ?_, fun c2 => ?_⟩, fun c => ?_⟩
    · rw [ifp_t c2, ifp_t c] at hQ; exact hQ
    · rw [ifp_f c2, ifp_t c] at hQ; exact hQ
    · rw [ifp_t (by omega), ifp_f c] at hQ; exact hQ
  rw [lI_0, lI_eq hu.1 hu.2 (by decide) (by decide), lI_eq hv.1 hv.2 (by decide) (by decide)]
  refine ⟨fun c => b14 (by omega), fun c => ⟨fun c2 => b14 (by omega), fun c2 => ?_⟩⟩
  unfold sg2 at hQ
  rw [ifp_f (by omega), ifp_f (by omega)] at hQ
  exact hQ
noncomputable def vBends (n : Nat) (P : Nat → Nat → Int) (z1 z2 : Int) : Int := ifp ((0 ≤ z1 ∧ z1 < n) ∧ (1 ≤ z2 ∧ z2 < 64)) (sg2 (0 < crs (P z1.toNat) z2.toNat 0 (P z1.toNat) z2.toNat 1 ∨ 0 < crs (P z1.toNat) z2.toNat 1 (P z1.toNat) z2.toNat 2) (crs (P z1.toNat) z2.toNat 0 (P z1.toNat) z2.toNat 1 < 0 ∨ crs (P z1.toNat) z2.toNat 1 (P z1.toNat) z2.toNat 2 < 0)) (-1)
theorem c_bends {N n : Nat} {P : Nat → Nat → Int} {z1 z2 : Int} {M : zMem} {Q : Int32 → zMem → Prop} (h : cA n P M) (h1 : -2147483648 ≤ z1 ∧ z1 < 2147483648) (h2 : -2147483648 ≤ z2 ∧ z2 < 2147483648) (hQ : Q (iI (vBends n P z1 z2)) M) : f_X7_bends N (iI z1) (iI z2) M Q := by
  unfold f_X7_bends
  unfold vBends at hQ
  have hn := h.1
  refine t_X7_isArc h.1 h.2.1 h1.1 h1.2 (fun a e1 l1 => ?_) (fun w => ?_)
  · refine ⟨fun e => absurd e (by decide), fun _ => ?_⟩
    refine t_X7_isNode h2.1 h2.2 (fun m e2 l2 l2' => ?_) (fun w => ?_)
    · rw [ifp_t (by omega)] at hQ
      subst e1; subst e2
      refine ⟨fun _ => ⟨iI_in0 (by omega) (by omega) (by decide), ?_⟩, fun e => absurd e (by decide)⟩
      rw [clN (by omega)]
      simp only [toN] at hQ
      have hA := h.2.2.1 a l1
      have b0 := crs_bd hA.1 hA.1 (i := 0) (j := 1) l2 l2' l2 l2'
      have b1 := crs_bd hA.1 hA.1 (i := 1) (j := 2) l2 l2' l2 l2'
      refine t_X4_crossOfSteps (i := 0) (j := 1) hA hA l2 l2' l2 l2' (by decide) (by decide) ?_
      refine t_X4_crossOfSteps (i := 1) (j := 2) hA hA l2 l2' l2 l2' (by decide) (by decide) ?_
      rw [lI_mnn (by omega) (by omega) (by omega) (by omega)]
      rw [show (if lI (crs (P a) m 1 (P a) m 2) < lI (crs (P a) m 0 (P a) m 1) then lI (crs (P a) m 0 (P a) m 1) else lI (crs (P a) m 1 (P a) m 2)) = lI (max (crs (P a) m 0 (P a) m 1) (crs (P a) m 1 (P a) m 2)) from lI_mxx (by omega) (by omega) (by omega) (by omega)]
      refine t_X7_whichSigns (by omega) (by omega) (by omega) ?_
      rw [sg2_to (p' := 0 < crs (P a) m 0 (P a) m 1 ∨ 0 < crs (P a) m 1 (P a) m 2) (m' := crs (P a) m 0 (P a) m 1 < 0 ∨ crs (P a) m 1 (P a) m 2 < 0) (by omega) (by omega)]
      exact hQ
    · rw [ifp_f (by omega)] at hQ
      exact ⟨fun e => absurd rfl e, fun _ => hQ⟩
  · rw [ifp_f (by omega)] at hQ
    exact ⟨fun _ => hQ, fun e => absurd rfl e⟩
theorem t_X8_bend {N a m j j' : Nat} {p : Nat → Int} {M : zMem} {Q : Int64 → zMem → Prop} (hR : RLd p a M) (h1 : 1 ≤ m) (h2 : m < 64) (hj : j < 2) (hj' : j' = j + 1) (hQ : Q (lI (crs p m j p m j')) M) : f_X8_bend N (iI a) (iI m) (iI (j : Int)) M Q := by
  unfold f_X8_bend
  subst hj'
  have b : ∀ i ax, ax < 2 → -294912 ≤ nd p m i ax ∧ nd p m i ax ≤ 294912 := fun i ax hax => nd_bd hR.2.1 h1 h2 hax
  have b00 := b j 0 (by decide)
  have b01 := b j 1 (by decide)
  have b10 := b (j + 1) 0 (by decide)
  have b11 := b (j + 1) 1 (by decide)
  have b20 := b (j + 1 + 1) 0 (by decide)
  have b21 := b (j + 1 + 1) 1 (by decide)
  refine t_X8_stepOf (ax := 0) hR h1 h2 (by omega) (by decide) ?_
  refine t_X8_stepOf (ax := 1) hR h1 h2 (by omega) (by decide) ?_
  rw [show iI (j : Int) + 1 = iI ((j + 1 : Nat) : Int) by rw [iI_1, iI_add]; rfl]
  refine t_X8_stepOf (ax := 0) hR h1 h2 (by omega) (by decide) ?_
  refine t_X8_stepOf (ax := 1) hR h1 h2 (by omega) (by decide) ?_
  unfold f_X8_cross
  rw [iI_l (by omega) (by omega), iI_l (by omega) (by omega), iI_l (by omega) (by omega), iI_l (by omega) (by omega), lI_mul, lI_mul, lI_sub]
  exact hQ
/-- a flag for a proposition -/
def flg (x : Int32) (p : Prop) : Prop := (p ∧ x = iI 1) ∨ (¬ p ∧ x = iI 0)
theorem t_X8_signOf {N : Nat} {x y : Int32} {p m : Prop} {M : zMem} {Q : Int32 → zMem → Prop} (hx : flg x p) (hy : flg y m) (hQ : Q (iI (sg2 p m)) M) : f_X8_signOf N x y M Q := by
  unfold f_X8_signOf
  unfold sg2 at hQ
  rcases hx with ⟨hp, rfl⟩ | ⟨hp, rfl⟩ <;> rcases hy with ⟨hm, rfl⟩ | ⟨hm, rfl⟩
  · rw [ifp_t hp, ifp_t hm] at hQ
    exact ⟨fun e => absurd e (by decide), fun _ => ⟨fun e => absurd e (by decide), fun _ => hQ⟩⟩
  · rw [ifp_t hp, ifp_f hm] at hQ
    exact ⟨fun e => absurd e (by decide), fun _ => ⟨fun _ => hQ, fun e => absurd rfl e⟩⟩
  · rw [ifp_f hp, ifp_t hm] at hQ
    exact ⟨fun _ => ⟨fun e => absurd e (by decide), fun _ => hQ⟩, fun e => absurd rfl e⟩
  · rw [ifp_f hp, ifp_f hm] at hQ
    exact ⟨fun _ => ⟨fun _ => hQ, fun e => absurd rfl e⟩, fun e => absurd rfl e⟩
theorem r_bends {N n : Nat} {P : Nat → Nat → Int} {T : TxS} {H : HiS} {I : ImS} {E : SeS} {z1 z2 : Int} {M : zMem} {Q : Int32 → zMem → Prop} (hN : 3000 ≤ N) (h : RR n P T H I E M) (h1 : -2147483648 ≤ z1 ∧ z1 < 2147483648) (h2 : -2147483648 ≤ z2 ∧ z2 < 2147483648) (hQ : ∀ M', fz 47 62 M M' → RR n P T H I E M' → Q (iI (vBends n P z1 z2)) M') : f_X8_bends N (iI z1) (iI z2) M Q := by
  unfold f_X8_bends
  unfold vBends at hQ
  intro M1 e
  have f1 : fz 47 62 M M1 := by rw [e]; exact fz_0
  have r1 : RR n P T H I E M1 := by rw [e]; exact RR_0 h
  have hn := RR_n r1.1
  refine t_X8_isArc hn.1 hn.2 h1.1 h1.2 (fun a e1 l1 => ?_) (fun w => ?_)
  · refine ⟨fun e => absurd e (by decide), fun _ => ?_⟩
    refine t_X8_isNode h2.1 h2.2 (fun m e2 l2 l2' => ?_) (fun w => ?_)
    · rw [ifp_t (by omega)] at hQ
      subst e1; subst e2
      refine ⟨fun _ => ?_, fun e => absurd e (by decide)⟩
      refine r_lays hN r1 (fun M' f2 r2 d2 => ?_)
      simp only [toN] at hQ
      have hQ' := hQ M' (f1.tr f2) r2
      have hR := d2 a l1
      have b0 := crs_bd hR.2.1 hR.2.1 (i := 0) (j := 1) l2 l2' l2 l2'
      have b1 := crs_bd hR.2.1 hR.2.1 (i := 1) (j := 2) l2 l2' l2 l2'
      have b55 : ∀ x, flg x (0 < crs (P a) m 0 (P a) m 1 ∨ 0 < crs (P a) m 1 (P a) m 2) → f_X8_bends_b55 N (iI (a : Int)) (iI (m : Int)) x M' Q := by
        intro x hx
        unfold f_X8_bends_b55
        refine t_X8_bend (j := 0) (j' := 1) hR l2 l2' (by decide) rfl ?_
        rw [lI_0, lI_lt (by omega) (by omega) (by decide) (by decide)]
        refine ⟨fun c => ?_, fun c => ?_⟩
        · unfold f_X8_bends_b79 f_X8_bends_b84
          exact t_X8_signOf hx (Or.inl ⟨Or.inl c, rfl⟩) hQ'
        · refine t_X8_bend (j := 1) (j' := 2) hR l2 l2' (by decide) rfl ?_
          rw [lI_le (by decide) (by decide) (by omega) (by omega)]
          refine ⟨fun c2 => ?_, fun c2 => ?_⟩
          · unfold f_X8_bends_b84
            exact t_X8_signOf hx (Or.inr ⟨fun w => w.elim c (fun w => by omega), rfl⟩) hQ'
          · unfold f_X8_bends_b79 f_X8_bends_b84
            exact t_X8_signOf hx (Or.inl ⟨Or.inr (by omega), rfl⟩) hQ'
      refine t_X8_bend (j := 0) (j' := 1) hR l2 l2' (by decide) rfl ?_
      rw [lI_0, lI_lt (by decide) (by decide) (by omega) (by omega)]
      refine ⟨fun c => ?_, fun c => ?_⟩
      · unfold f_X8_bends_b50
        exact b55 1 (Or.inl ⟨Or.inl c, rfl⟩)
      · refine t_X8_bend (j := 1) (j' := 2) hR l2 l2' (by decide) rfl ?_
        rw [lI_le (by omega) (by omega) (by decide) (by decide)]
        refine ⟨fun c2 => ?_, fun c2 => ?_⟩
        · exact b55 0 (Or.inr ⟨fun w => w.elim c (fun w => by omega), rfl⟩)
        · unfold f_X8_bends_b50
          exact b55 1 (Or.inl ⟨Or.inr (by omega), rfl⟩)
    · rw [ifp_f (by omega)] at hQ
      exact ⟨fun e => absurd rfl e, fun _ => hQ M1 f1 r1⟩
  · rw [ifp_f (by omega)] at hQ
    exact ⟨fun _ => hQ M1 f1 r1, fun e => absurd rfl e⟩
def stN (p : Nat → Int) (m ax i : Nat) : Int := nd p m (i + 1) ax - nd p m i ax
noncomputable def vGoes (n : Nat) (P : Nat → Nat → Int) (z1 z2 z3 : Int) : Int := ifp ((0 ≤ z1 ∧ z1 < n) ∧ (1 ≤ z2 ∧ z2 < 64) ∧ (0 ≤ z3 ∧ z3 < 2)) (sg2 (∃ i, i < 3 ∧ 0 < stN (P z1.toNat) z2.toNat z3.toNat i) (∃ i, i < 3 ∧ stN (P z1.toNat) z2.toNat z3.toNat i < 0)) (-1)
theorem c_goes {N n : Nat} {P : Nat → Nat → Int} {z1 z2 z3 : Int} {M : zMem} {Q : Int32 → zMem → Prop} (hN : 100 ≤ N) (h : cA n P M) (h1 : -2147483648 ≤ z1 ∧ z1 < 2147483648) (h2 : -2147483648 ≤ z2 ∧ z2 < 2147483648) (h3 : -2147483648 ≤ z3 ∧ z3 < 2147483648) (hQ : Q (iI (vGoes n P z1 z2 z3)) M) : f_X7_goes N (iI z1) (iI z2) (iI z3) M Q := by
  unfold f_X7_goes
  unfold vGoes at hQ
  have hn := h.1
  refine t_X7_isArc h.1 h.2.1 h1.1 h1.2 (fun a e1 l1 => ?_) (fun w => ?_)
  · refine ⟨fun e => absurd e (by decide), fun _ => ?_⟩
    refine t_X7_isNode h2.1 h2.2 (fun m e2 l2 l2' => ?_) (fun w => ?_)
    · refine ⟨fun e => absurd e (by decide), fun _ => ?_⟩
      refine t_X7_isAxis h3.1 h3.2 (fun ax e3 l3 => ?_) (fun w => ?_)
      · rw [ifp_t (by omega)] at hQ
        subst e1; subst e2; subst e3
        have va : vp_in (iI (a : Int)) 4 := iI_in0 (by omega) (by omega) (by decide)
        refine ⟨fun _ => ⟨va, ?_⟩, fun e => absurd e (by decide)⟩
        rw [clN (by omega)]
        simp only [toN] at hQ
        have hA := h.2.2.1 a l1
        have hR := hA.2.2.1 m l2 l2'
        have b : ∀ i, -294912 ≤ nd (P a) m i ax ∧ nd (P a) m i ax ≤ 294912 := fun i => nd_bd hA.1 l2 l2' l3
        have bs : ∀ i, -589824 ≤ stN (P a) m ax i ∧ stN (P a) m ax i ≤ 589824 := fun i => by
          have := b i
          have := b (i + 1)
          unfold stN
          omega
        refine t_X0_step (i := 0) l2' (by decide) l3 hR ?_
        have lp : ∀ (r f k : Nat) (u v : Int), r + k = 3 → r + 1 ≤ f → 1 ≤ k → (∀ i, i < k → u ≤ stN (P a) m ax i ∧ stN (P a) m ax i ≤ v) → (∃ i, i < k ∧ u = stN (P a) m ax i) → (∃ i, i < k ∧ v = stN (P a) m ax i) → f_X7_goes_l45 N (iI (a : Int)) (iI (m : Int)) (iI (ax : Int)) Q f (iI u) (iI v) (iI (k : Int)) M := by
          intro r
          induction r with
          | zero =>
            intro f k u v hk hf hk1 q1 q2 q3
            obtain ⟨f, rfl⟩ : ∃ g, f = g + 1 := ⟨f - 1, by omega⟩
            show f_X7_goes_b45 N (f_X7_goes_l45 N (iI (a : Int)) (iI (m : Int)) (iI (ax : Int)) Q f) (iI (a : Int)) (iI (m : Int)) (iI (ax : Int)) (iI u) (iI v) (iI (k : Int)) M Q
            unfold f_X7_goes_b45
            obtain ⟨i2, q2, q2'⟩ := q2
            obtain ⟨i3, q3, q3'⟩ := q3
            have := bs i2
            have := bs i3
            have := q1 i2 q2
            refine ⟨fun _ => ?_, fun cc => ?_⟩
            · rw [iI_l (by omega) (by omega), iI_l (by omega) (by omega)]
              refine t_X7_whichSigns (by omega) (by omega) (by omega) ?_
              rw [sg2_to (p' := ∃ i, i < 3 ∧ 0 < stN (P a) m ax i) (m' := ∃ i, i < 3 ∧ stN (P a) m ax i < 0) ⟨fun w => ⟨i3, by omega, by omega⟩, fun ⟨i, w1, w2⟩ => by have := q1 i (by omega); omega⟩ ⟨fun w => ⟨i2, by omega, by omega⟩, fun ⟨i, w1, w2⟩ => by have := q1 i (by omega); omega⟩]
              exact hQ
            · simp (disch := omega) only [iI_m1, iI_0, iI_1, iI_2, iI_3, iI_4, iI_5, iI_6, iI_7, iI_8, iI_9, iI_10, iI_11, iI_12, iI_13, iI_16, iI_18, iI_20, iI_24, iI_31, iI_32, iI_33, iI_36, iI_48, iI_57, iI_59, iI_63, iI_64, iI_97, iI_100, iI_101, iI_130, iI_255, iI_256, iI_512, iI_1000, iI_1009, iI_2000, iI_2048, iI_32768, iI_2147483647, iI_add, iI_sub, iI_mul, iI_neg, iI_lt, iI_le, iI_eq, iI_in] at cc
              omega
          | succ r ih =>
            intro f k u v hk hf hk1 q1 q2 q3
            obtain ⟨f, rfl⟩ : ∃ g, f = g + 1 := ⟨f - 1, by omega⟩
            show f_X7_goes_b45 N (f_X7_goes_l45 N (iI (a : Int)) (iI (m : Int)) (iI (ax : Int)) Q f) (iI (a : Int)) (iI (m : Int)) (iI (ax : Int)) (iI u) (iI v) (iI (k : Int)) M Q
            unfold f_X7_goes_b45
            obtain ⟨i2, q2, q2'⟩ := q2
            obtain ⟨i3, q3, q3'⟩ := q3
            have := bs i2
            have := bs i3
            have bk := bs k
            refine ⟨fun cc => ?_, fun _ => ⟨va, ?_⟩⟩
            · simp (disch := omega) only [iI_m1, iI_0, iI_1, iI_2, iI_3, iI_4, iI_5, iI_6, iI_7, iI_8, iI_9, iI_10, iI_11, iI_12, iI_13, iI_16, iI_18, iI_20, iI_24, iI_31, iI_32, iI_33, iI_36, iI_48, iI_57, iI_59, iI_63, iI_64, iI_97, iI_100, iI_101, iI_130, iI_255, iI_256, iI_512, iI_1000, iI_1009, iI_2000, iI_2048, iI_32768, iI_2147483647, iI_add, iI_sub, iI_mul, iI_neg, iI_lt, iI_le, iI_eq, iI_in] at cc
              omega
            · rw [clN (by omega)]
              refine t_X0_step (i := k) l2' (by omega) l3 hR ?_
              rw [show nd (P a) m (k + 1) ax - nd (P a) m k ax = stN (P a) m ax k from rfl]
              intro v15 e15 v16 e16 v17 e17
              rw [iI_mnn (by omega) (by omega) (by omega) (by omega)] at e15
              rw [iI_mxx (by omega) (by omega) (by omega) (by omega)] at e16
              simp (disch := omega) only [iI_m1, iI_0, iI_1, iI_2, iI_3, iI_4, iI_5, iI_6, iI_7, iI_8, iI_9, iI_10, iI_11, iI_12, iI_13, iI_16, iI_18, iI_20, iI_24, iI_31, iI_32, iI_33, iI_36, iI_48, iI_57, iI_59, iI_63, iI_64, iI_97, iI_100, iI_101, iI_130, iI_255, iI_256, iI_512, iI_1000, iI_1009, iI_2000, iI_2048, iI_32768, iI_2147483647, iI_add, iI_sub, iI_mul, iI_neg, iI_lt, iI_le, iI_eq, iI_in] at e17
              subst e15; subst e16; subst e17
              refine ih f (k + 1) _ _ (by omega) (by omega) (by omega) (fun i hi => ?_) ?_ ?_
              · by_cases hik : i = k
                · subst hik; omega
                · have := q1 i (by omega)
                  omega
              · by_cases hlt : stN (P a) m ax k ≤ u
                · exact ⟨k, by omega, by omega⟩
                · exact ⟨i2, by omega, by omega⟩
              · by_cases hlt : v ≤ stN (P a) m ax k
                · exact ⟨k, by omega, by omega⟩
                · exact ⟨i3, by omega, by omega⟩
        refine lp 2 N 1 _ _ (by decide) (by omega) (by decide) (fun i hi => ?_) ⟨0, by decide, rfl⟩ ⟨0, by decide, rfl⟩
        obtain rfl : i = 0 := by omega
        exact ⟨Int.le_refl _, Int.le_refl _⟩
      · rw [ifp_f (by omega)] at hQ
        exact ⟨fun e => absurd rfl e, fun _ => hQ⟩
    · rw [ifp_f (by omega)] at hQ
      exact ⟨fun _ => hQ, fun e => absurd rfl e⟩
  · rw [ifp_f (by omega)] at hQ
    exact ⟨fun _ => hQ, fun e => absurd rfl e⟩
theorem r_goes {N n : Nat} {P : Nat → Nat → Int} {T : TxS} {H : HiS} {I : ImS} {E : SeS} {z1 z2 z3 : Int} {M : zMem} {Q : Int32 → zMem → Prop} (hN : 3000 ≤ N) (h : RR n P T H I E M) (h1 : -2147483648 ≤ z1 ∧ z1 < 2147483648) (h2 : -2147483648 ≤ z2 ∧ z2 < 2147483648) (h3 : -2147483648 ≤ z3 ∧ z3 < 2147483648) (hQ : ∀ M', fz 47 62 M M' → RR n P T H I E M' → Q (iI (vGoes n P z1 z2 z3)) M') : f_X8_goes N (iI z1) (iI z2) (iI z3) M Q := by
  unfold f_X8_goes
  unfold vGoes at hQ
  intro M1 e
  have f1 : fz 47 62 M M1 := by rw [e]; exact fz_0
  have r1 : RR n P T H I E M1 := by rw [e]; exact RR_0 h
  have hn := RR_n r1.1
  refine t_X8_isArc hn.1 hn.2 h1.1 h1.2 (fun a e1 l1 => ?_) (fun w => ?_)
  · refine ⟨fun e => absurd e (by decide), fun _ => ?_⟩
    refine t_X8_isNode h2.1 h2.2 (fun m e2 l2 l2' => ?_) (fun w => ?_)
    · refine ⟨fun e => absurd e (by decide), fun _ => ?_⟩
      refine t_X8_upTo (h := 1) h3.1 h3.2 (by decide) (fun ax e3 l3 => ?_) (fun w => ?_)
      · rw [ifp_t (by omega)] at hQ
        subst e1; subst e2; subst e3
        refine ⟨fun _ => ?_, fun e => absurd e (by decide)⟩
        refine r_lays hN r1 (fun M' f2 r2 d2 => ?_)
        simp only [toN] at hQ
        have hQ' := hQ M' (f1.tr f2) r2
        have hR := d2 a l1
        have b : ∀ i, -294912 ≤ nd (P a) m i ax ∧ nd (P a) m i ax ≤ 294912 := fun i => nd_bd hR.2.1 l2 l2' (by omega)
        have lp : ∀ (r f k : Nat) (x y : Int32), r + k = 3 → r + 1 ≤ f → flg x (∃ i, i < k ∧ 0 < stN (P a) m ax i) → flg y (∃ i, i < k ∧ stN (P a) m ax i < 0) → f_X8_goes_l44 N (iI (a : Int)) (iI (m : Int)) (iI (ax : Int)) Q f x y (iI (k : Int)) M' := by
          intro r
          induction r with
          | zero =>
            intro f k x y hk hf hx hy
            obtain ⟨f, rfl⟩ : ∃ g, f = g + 1 := ⟨f - 1, by omega⟩
            obtain rfl : k = 3 := by omega
            show f_X8_goes_b44 N (f_X8_goes_l44 N (iI (a : Int)) (iI (m : Int)) (iI (ax : Int)) Q f) (iI (a : Int)) (iI (m : Int)) (iI (ax : Int)) x y (iI ((3 : Nat) : Int)) M' Q
            unfold f_X8_goes_b44
            exact ⟨fun _ => t_X8_signOf hx hy hQ', fun cc => absurd (by decide) cc⟩
          | succ r ih =>
            intro f k x y hk hf hx hy
            obtain ⟨f, rfl⟩ : ∃ g, f = g + 1 := ⟨f - 1, by omega⟩
            show f_X8_goes_b44 N (f_X8_goes_l44 N (iI (a : Int)) (iI (m : Int)) (iI (ax : Int)) Q f) (iI (a : Int)) (iI (m : Int)) (iI (ax : Int)) x y (iI (k : Int)) M' Q
            unfold f_X8_goes_b44
            have c0 := b k
            have c1 := b (k + 1)
            have b96 : ∀ x' y', flg x' (∃ i, i < k + 1 ∧ 0 < stN (P a) m ax i) → flg y' (∃ i, i < k + 1 ∧ stN (P a) m ax i < 0) → f_X8_goes_b96 N (f_X8_goes_l44 N (iI (a : Int)) (iI (m : Int)) (iI (ax : Int)) Q f) (iI (a : Int)) (iI (m : Int)) (iI (ax : Int)) x' (iI (k : Int)) y' M' Q := by
              intro x' y' hx' hy'
              unfold f_X8_goes_b96
              intro v e
              simp (disch := omega) only [iI_m1, iI_0, iI_1, iI_2, iI_3, iI_4, iI_5, iI_6, iI_7, iI_8, iI_9, iI_10, iI_11, iI_12, iI_13, iI_16, iI_18, iI_20, iI_24, iI_31, iI_32, iI_33, iI_36, iI_48, iI_57, iI_59, iI_63, iI_64, iI_97, iI_100, iI_101, iI_130, iI_255, iI_256, iI_512, iI_1000, iI_1009, iI_2000, iI_2048, iI_32768, iI_2147483647, iI_add, iI_sub, iI_mul, iI_neg, iI_lt, iI_le, iI_eq, iI_in] at e
              subst e
              exact ih f (k + 1) x' y' (by omega) (by omega) hx' hy'
            have b72 : ∀ x', flg x' (∃ i, i < k + 1 ∧ 0 < stN (P a) m ax i) → f_X8_goes_b72 N (f_X8_goes_l44 N (iI (a : Int)) (iI (m : Int)) (iI (ax : Int)) Q f) (iI (a : Int)) (iI (m : Int)) (iI (ax : Int)) y (iI (k : Int)) x' M' Q := by
              intro x' hx'
              unfold f_X8_goes_b72
              refine ⟨fun w => ?_, fun w => ?_⟩
              · unfold f_X8_goes_b91
                rcases hy with ⟨⟨i, i1, i2⟩, rfl⟩ | ⟨hy, rfl⟩
                · exact b96 x' 1 hx' (Or.inl ⟨⟨i, by omega, i2⟩, rfl⟩)
                · exact absurd rfl w
              · rcases hy with ⟨hy, rfl⟩ | ⟨hy, rfl⟩
                · exact absurd w (by decide)
                · refine t_X8_stepOf (i := k) hR l2 l2' (by omega) (by omega) ?_
                  rw [iI_0, iI_le (by decide) (by decide) (by omega) (by omega)]
                  refine ⟨fun c => b96 x' 0 hx' (Or.inr ⟨?_, rfl⟩), fun c => ?_⟩
                  · rintro ⟨i, i1, i2⟩
                    by_cases hik : i = k
                    · subst hik; unfold stN at i2; omega
                    · exact hy ⟨i, by omega, i2⟩
                  · unfold f_X8_goes_b91
                    exact b96 x' 1 hx' (Or.inl ⟨⟨k, by omega, by unfold stN; omega⟩, rfl⟩)
            refine ⟨fun cc => ?_, fun _ => ⟨fun w => ?_, fun w => ?_⟩⟩
            · simp (disch := omega) only [iI_m1, iI_0, iI_1, iI_2, iI_3, iI_4, iI_5, iI_6, iI_7, iI_8, iI_9, iI_10, iI_11, iI_12, iI_13, iI_16, iI_18, iI_20, iI_24, iI_31, iI_32, iI_33, iI_36, iI_48, iI_57, iI_59, iI_63, iI_64, iI_97, iI_100, iI_101, iI_130, iI_255, iI_256, iI_512, iI_1000, iI_1009, iI_2000, iI_2048, iI_32768, iI_2147483647, iI_add, iI_sub, iI_mul, iI_neg, iI_lt, iI_le, iI_eq, iI_in] at cc
              omega
            · unfold f_X8_goes_b67
              rcases hx with ⟨⟨i, i1, i2⟩, rfl⟩ | ⟨hx, rfl⟩
              · exact b72 1 (Or.inl ⟨⟨i, by omega, i2⟩, rfl⟩)
              · exact absurd rfl w
            · rcases hx with ⟨hx, rfl⟩ | ⟨hx, rfl⟩
              · exact absurd w (by decide)
              · refine t_X8_stepOf (i := k) hR l2 l2' (by omega) (by omega) ?_
                rw [iI_0, iI_le (by omega) (by omega) (by decide) (by decide)]
                refine ⟨fun c => b72 0 (Or.inr ⟨?_, rfl⟩), fun c => ?_⟩
                · rintro ⟨i, i1, i2⟩
                  by_cases hik : i = k
                  · subst hik; unfold stN at i2; omega
                  · exact hx ⟨i, by omega, i2⟩
                · unfold f_X8_goes_b67
                  exact b72 1 (Or.inl ⟨⟨k, by omega, by unfold stN; omega⟩, rfl⟩)
        exact lp 3 N 0 0 0 (by decide) (by omega) (Or.inr ⟨fun ⟨i, i1, _⟩ => absurd i1 (Nat.not_lt_zero i), rfl⟩) (Or.inr ⟨fun ⟨i, i1, _⟩ => absurd i1 (Nat.not_lt_zero i), rfl⟩)
      · rw [ifp_f (by omega)] at hQ
        exact ⟨fun e => absurd rfl e, fun _ => hQ M1 f1 r1⟩
    · rw [ifp_f (by omega)] at hQ
      exact ⟨fun _ => hQ M1 f1 r1, fun e => absurd rfl e⟩
  · rw [ifp_f (by omega)] at hQ
    exact ⟨fun _ => hQ M1 f1 r1, fun e => absurd rfl e⟩
