/-! ===== what may be undone; the component's changes ===== -/
def pushH (P : Nat → Nat → Int) (H : HiS) (a : Nat) : HiS := (min (H.1 + 1) 10, fun i => if i = 0 then a else H.2.1 (i - 1), fun i => if i = 0 then P a else H.2.2 (i - 1))
def popH (H : HiS) : HiS := (H.1 - 1, fun i => H.2.1 (i + 1), fun i => H.2.2 (i + 1))
def upA (P : Nat → Nat → Int) (a : Nat) (p : Nat → Int) : Nat → Nat → Int := fun x => if x = a then p else P x
theorem upA_1 {P : Nat → Nat → Int} {a : Nat} {p : Nat → Int} : upA P a p a = p := by unfold upA; rw [if_pos rfl]
theorem upA_2 {P : Nat → Nat → Int} {a x : Nat} {p : Nat → Int} (h : x ≠ a) : upA P a p x = P x := by unfold upA; rw [if_neg h]
theorem stp_push {P : Nat → Nat → Int} {H : HiS} {a : Nat} {p : Nat → Int} : ∀ i, stp (upA P a p) (pushH P H a) (i + 1) = stp P H i := by
  intro i
  induction i with
  | zero =>
    funext x
    show (if x = a then P a else upA P a p x) = P x
    by_cases h : x = a
    · rw [if_pos h, h]
    · rw [if_neg h, upA_2 h]
  | succ i ih =>
    funext x
    show (if x = H.2.1 i then H.2.2 i else stp (upA P a p) (pushH P H a) (i + 1) x) = (if x = H.2.1 i then H.2.2 i else stp P H i x)
    rw [ih]
theorem stp_pop {P : Nat → Nat → Int} {H : HiS} : ∀ i, stp (upA P (H.2.1 0) (H.2.2 0)) (popH H) i = stp P H (i + 1) := by
  intro i
  induction i with
  | zero => rfl
  | succ i ih =>
    funext x
    show (if x = H.2.1 (i + 1) then H.2.2 (i + 1) else stp (upA P (H.2.1 0) (H.2.2 0)) (popH H) i x) = (if x = H.2.1 (i + 1) then H.2.2 (i + 1) else stp P H (i + 1) x)
    rw [ih]
theorem zl8 {a : Nat} (ha : a < 4) : zln (5 + 6 * a + 1) = 8 := by
  rcases (show a = 0 ∨ a = 1 ∨ a = 2 ∨ a = 3 by omega) with rfl | rfl | rfl | rfl <;> decide
theorem t_X1_adds_b13 {N n a m : Nat} {p : Nat → Int} {H : HiS} {M : zMem} {Q : zMem → Prop} (ha : a < n) (hn : n ≤ 4) (hp : pOk p) (hT : RT p (5 + 6 * a) M) (hm : m < 10) (hH : cH n (m, H.2) M) (hQ : ∀ M', fz 29 31 M M' → cH n (m + 1, (fun i => if i = 0 then a else H.2.1 (i - 1)), fun i => if i = 0 then p else H.2.2 (i - 1)) M' → Q M') : f_X1_adds_b13 N (iI (a : Int)) (5 + 6 * a + 1) M Q := by
  unfold f_X1_adds_b13
  obtain ⟨g1, g2, g3⟩ := hH
  dsimp only at g1 g2 g3
  rw [g2]
  refine ⟨iI_in0 (by omega) (by omega) (by decide), fun M1 e1 => ?_⟩
  rw [zst_iI (by omega) (by omega), toN] at e1
  have q1 : M1.1 29 2 = iI (m : Int) := by subst e1; rw [zwI_1, if_neg (by omega)]; exact g2
  have e8 : iI (m : Int) * (8 : Int32) = iI ((8 * m : Nat) : Int) := by rw [iI_8, iI_mul]; congr 1 <;> omega
  rw [q1, e8, cl_iI0, cl_iI8, clN (by omega), zl8 (by omega)]
  refine ⟨by decide, ?_, by decide, by decide, by omega, fun M2 e2 M3 e3 => ?_⟩
  · simp (disch := omega) only [iI_m1, iI_0, iI_1, iI_2, iI_3, iI_4, iI_5, iI_6, iI_7, iI_8, iI_9, iI_10, iI_11, iI_12, iI_13, iI_16, iI_18, iI_20, iI_24, iI_31, iI_32, iI_33, iI_36, iI_48, iI_57, iI_59, iI_63, iI_64, iI_97, iI_100, iI_101, iI_130, iI_255, iI_256, iI_512, iI_1000, iI_1009, iI_2000, iI_2048, iI_32768, iI_2147483647, iI_add, iI_sub, iI_mul, iI_neg, iI_lt, iI_le, iI_eq, iI_in]
    omega
  have q2 : M2.1 29 2 = iI (m : Int) := by subst e2; rw [zcp_1, if_neg (by decide)]; exact q1
  rw [q2, iI_1, iI_add] at e3
  have f3 : fz 29 31 M M3 := by subst e1; subst e2; subst e3; exact ((fz_wI (by decide) (by decide)).tr (fz_cp (by decide) (by decide))).tr (fz_wI (by decide) (by decide))
  refine hQ M3 f3 ⟨by dsimp only; omega, by dsimp only; subst e3; rw [zwI_1, if_pos ⟨rfl, rfl⟩]; rfl, fun i hi => ?_⟩
  dsimp only at hi ⊢
  have a30 : ∀ j, M3.1 30 j = if j = m then iI (a : Int) else M.1 30 j := fun j => by
    subst e3; rw [zwI_1, if_neg (by omega)]
    subst e2; rw [zcp_1, if_neg (by decide)]
    subst e1; rw [zwI_1]
    by_cases hj : j = m
    · rw [if_pos ⟨rfl, hj⟩, if_pos hj]
    · rw [if_neg (by omega), if_neg hj]
  have a31 : ∀ j, M3.1 31 j = if 8 * m ≤ j ∧ j < 8 * m + 8 then M.1 (5 + 6 * a + 1) (0 + (j - 8 * m)) else M.1 31 j := fun j => by
    subst e3; rw [zwI_1, if_neg (by omega)]
    subst e2; rw [zcp_1, if_pos rfl]
    subst e1
    by_cases hj : 8 * m ≤ j ∧ j < 8 * m + 8
    · rw [if_pos hj, if_pos hj, zwI_1, if_neg (by omega)]
    · rw [if_neg hj, if_neg hj, zwI_1, if_neg (by omega)]
  by_cases hi0 : i = 0
  · subst hi0
    rw [if_pos rfl, if_pos rfl]
    refine ⟨ha, hp, by rw [a30, if_pos (by omega)], fun k hk => ?_⟩
    rw [a31, if_pos (by omega), show 0 + (8 * (m + 1 - 1 - 0) + k - 8 * m) = k by omega]
    exact hT k hk
  · rw [if_neg hi0, if_neg hi0]
    obtain ⟨s1, s2, s3, s4⟩ := g3 (i - 1) (by omega)
    rw [show m + 1 - 1 - i = m - 1 - (i - 1) by omega]
    refine ⟨s1, s2, by rw [a30, if_neg (by omega)]; exact s3, fun k hk => ?_⟩
    rw [a31, if_neg (by omega)]
    exact s4 k hk
theorem t_X1_loseOldest {N n : Nat} {H : HiS} {M : zMem} {Q : zMem → Prop} (hH : cH n H M) (h10 : H.1 = 10) (hQ : ∀ M', fz 29 31 M M' → cH n (9, H.2) M' → Q M') : f_X1_loseOldest N M Q := by
  unfold f_X1_loseOldest
  intro M1 e1
  have q1 : M1.1 29 2 = iI ((9 : Nat) : Int) := by subst e1; rw [zwI_1, if_pos ⟨rfl, rfl⟩]; rfl
  have c9 : (iI ((9 : Nat) : Int)).toNatClampNeg = 9 := by decide
  have c1 : (1 : Int32).toNatClampNeg = 1 := by decide
  have c72 : (iI ((9 : Nat) : Int) * (8 : Int32)).toNatClampNeg = 72 := by decide
  rw [q1, cl_iI0, c1, c9]
  refine ⟨by decide, by decide, by decide, by decide, by decide, fun M2 e2 => ?_⟩
  have q2 : M2.1 29 2 = iI ((9 : Nat) : Int) := by subst e2; rw [zcp_1, if_neg (by decide)]; exact q1
  rw [q2, cl_iI8, c72]
  refine ⟨by decide, by decide, by decide, by decide, by decide, fun M3 e3 => ?_⟩
  have q3 : M3.1 29 2 = iI ((9 : Nat) : Int) := by subst e3; rw [zcp_1, if_neg (by decide)]; exact q2
  refine hQ M3 (by subst e1; subst e2; subst e3; exact ((fz_wI (by decide) (by decide)).tr (fz_cp (by decide) (by decide))).tr (fz_cp (by decide) (by decide))) ⟨Nat.le_succ 9, q3, fun i hi => ?_⟩
  dsimp only at hi ⊢
  obtain ⟨s1, s2, s3, s4⟩ := hH.2.2 i (by omega)
  rw [h10] at s3 s4
  refine ⟨s1, s2, ?_, fun k hk => ?_⟩
  · subst e3; rw [zcp_1, if_neg (by decide)]
    subst e2; rw [zcp_1, if_pos rfl, if_pos (by omega)]
    subst e1; rw [zwI_1, if_neg (by omega), show 1 + (9 - 1 - i - 0) = 10 - 1 - i by omega]
    exact s3
  · subst e3; rw [zcp_1, if_pos rfl, if_pos (by omega)]
    subst e2; rw [zcp_1, if_neg (by decide)]
    subst e1; rw [zwI_1, if_neg (by omega), show 8 + (8 * (9 - 1 - i) + k - 0) = 8 * (10 - 1 - i) + k by omega]
    exact s4 k hk
theorem c_start {N n a : Nat} {P : Nat → Nat → Int} {T : TxS} {H : HiS} {I : ImS} {E : SeS} {M : zMem} {Q : zMem → Prop} (hN : 100 ≤ N) (h : RC n P T H I E M) (ha : a < n) (hQ : ∀ M3 M5, fz 29 31 M M3 → fz 38 46 M3 M5 → cH n (pushH P H a) M5 → (∀ n P, CV n P M5 ∧ KV n P M5) → Q M5) : f_X7_startChange N (iI (a : Int)) M Q := by
  unfold f_X7_startChange f_X1_adds
  have hn := h.1.1
  have hH := h.2.2.1
  have hl := hH.1
  have hA := h.1.2.2.1 a ha
  rw [clN (by omega), hH.2.1]
  have fin : ∀ M3, fz 29 31 M M3 → cH n (pushH P H a) M3 → f_X3_outdate N M3 (fun (M5 : zMem) => Q M5) := fun M3 f3 h3 => t_X3_outdate hN (fun M5 f5 c5 => hQ M3 M5 f3 f5 (cH_fz h3 f5 (by omega)) c5)
  refine ⟨iI_in0 (by omega) (by omega) (by decide), fun c => ?_, fun c => ?_⟩
  · simp (disch := omega) only [iI_m1, iI_0, iI_1, iI_2, iI_3, iI_4, iI_5, iI_6, iI_7, iI_8, iI_9, iI_10, iI_11, iI_12, iI_13, iI_16, iI_18, iI_20, iI_24, iI_31, iI_32, iI_33, iI_36, iI_48, iI_57, iI_59, iI_63, iI_64, iI_97, iI_100, iI_101, iI_130, iI_255, iI_256, iI_512, iI_1000, iI_1009, iI_2000, iI_2048, iI_32768, iI_2147483647, iI_add, iI_sub, iI_mul, iI_neg, iI_lt, iI_le, iI_eq, iI_in] at c
    refine t_X1_adds_b13 (m := H.1) ha hn hA.1 hA.2.1 (by omega) hH (fun M3 f3 h3 => fin M3 f3 ?_)
    unfold pushH
    rw [show min (H.1 + 1) 10 = H.1 + 1 by omega]
    exact h3
  · simp (disch := omega) only [iI_m1, iI_0, iI_1, iI_2, iI_3, iI_4, iI_5, iI_6, iI_7, iI_8, iI_9, iI_10, iI_11, iI_12, iI_13, iI_16, iI_18, iI_20, iI_24, iI_31, iI_32, iI_33, iI_36, iI_48, iI_57, iI_59, iI_63, iI_64, iI_97, iI_100, iI_101, iI_130, iI_255, iI_256, iI_512, iI_1000, iI_1009, iI_2000, iI_2048, iI_32768, iI_2147483647, iI_add, iI_sub, iI_mul, iI_neg, iI_lt, iI_le, iI_eq, iI_in] at c
    refine t_X1_loseOldest hH (by omega) (fun M2 f2 h2 => ?_)
    refine t_X1_adds_b13 (m := 9) ha hn hA.1 (fun k hk => by rw [(f2 (5 + 6 * a + 1) (by omega)).1]; exact hA.2.1 k hk) (by omega) h2 (fun M3 f3 h3 => fin M3 (f2.tr f3) ?_)
    unfold pushH
    rw [show min (H.1 + 1) 10 = 9 + 1 by omega]
    exact h3
theorem RC_chg {n a : Nat} {P : Nat → Nat → Int} {T : TxS} {H H' : HiS} {I : ImS} {E : SeS} {M M3 M5 M7 : zMem} {p' : Nat → Int} (h : RC n P T H I E M) (ha : a < n) (f3 : fz 29 31 M M3) (f5 : fz 38 46 M3 M5) (h5 : cH n H' M5) (c5 : ∀ n P, CV n P M5 ∧ KV n P M5) (f7 : fz (5 + 6 * a + 1) (5 + 6 * a + 5) M5 M7) (r7 : RA p' (5 + 6 * a) M7) : fz 0 46 M M7 ∧ RC n (upA P a p') T H' I E M7 := by
  have hn := h.1.1
  refine ⟨((fz_wide f3 (by omega) (by omega)).tr (fz_wide f5 (by omega) (by omega))).tr (fz_wide f7 (by omega) (by omega)), ⟨hn, ?_, fun k hk => ?_, CV_e (c5 n _).1 (fun c c1 c2 => (f7 c (by omega)).1), KV_e (c5 n _).2 (f7 46 (by omega)).1⟩, cT_fz (cT_fz (cT_fz h.2.1 f3 (by omega)) f5 (by omega)) f7 (by omega), cH_fz h5 f7 (by omega), cI_fz (cI_fz (cI_fz h.2.2.2.1 f3 (by omega)) f5 (by omega)) f7 (by omega), cS_fz (cS_fz (cS_fz h.2.2.2.2 f3 (by omega)) f5 (by omega)) f7 (by omega)⟩
  · rw [(f7 0 (by omega)).1, (f5 0 (by omega)).1, (f3 0 (by omega)).1]
    exact h.1.2.1
  · by_cases hka : k = a
    · subst hka
      rw [upA_1]
      exact r7
    · rw [upA_2 hka]
      exact (((h.1.2.2.1 k hk).fz f3 (by omega)).fz f5 (by omega)).fz f7 (by omega)
def pMv (p : Nat → Int) (i : Nat) (x y : Int) : Nat → Int := fun k => if k = 2 * i then x else if k = 2 * i + 1 then y else p k
def okMv (n : Nat) (z1 z2 z3 z4 : Int) : Prop := (0 ≤ z1 ∧ z1 < n) ∧ (0 ≤ z2 ∧ z2 < 4) ∧ (-9 ≤ z3 ∧ z3 ≤ 9) ∧ (-9 ≤ z4 ∧ z4 ≤ 9)
def saMv (P : Nat → Nat → Int) (z1 z2 z3 z4 : Int) : Prop := P z1.toNat (2 * z2.toNat) = z3 ∧ P z1.toNat (2 * z2.toNat + 1) = z4
noncomputable def rMv (n : Nat) (P : Nat → Nat → Int) (z1 z2 z3 z4 : Int) : Int := ifp (okMv n z1 z2 z3 z4) (ifp (saMv P z1 z2 z3 z4) (-2) 1) (-1)
noncomputable def pMvS (n : Nat) (P : Nat → Nat → Int) (z1 z2 z3 z4 : Int) : Nat → Nat → Int := ifp (okMv n z1 z2 z3 z4 ∧ ¬ saMv P z1 z2 z3 z4) (upA P z1.toNat (pMv (P z1.toNat) z2.toNat z3 z4)) P
noncomputable def hMvS (n : Nat) (P : Nat → Nat → Int) (H : HiS) (z1 z2 z3 z4 : Int) : HiS := ifp (okMv n z1 z2 z3 z4 ∧ ¬ saMv P z1 z2 z3 z4) (pushH P H z1.toNat) H
theorem pMv_ok {p : Nat → Int} {i : Nat} {x y : Int} (hp : pOk p) (hx : -9 ≤ x ∧ x ≤ 9) (hy : -9 ≤ y ∧ y ≤ 9) : pOk (pMv p i x y) := by
  intro k hk
  unfold pMv
  split
  · exact hx
  · split
    · exact hy
    · exact hp k hk
theorem c_moves {N n : Nat} {P : Nat → Nat → Int} {T : TxS} {H : HiS} {I : ImS} {E : SeS} {z1 z2 z3 z4 : Int} {M : zMem} {Q : Int32 → zMem → Prop} (hN : 100 ≤ N) (h : RC n P T H I E M) (h1 : -2147483648 ≤ z1 ∧ z1 < 2147483648) (h2 : -2147483648 ≤ z2 ∧ z2 < 2147483648) (h3 : -2147483648 ≤ z3 ∧ z3 < 2147483648) (h4 : -2147483648 ≤ z4 ∧ z4 < 2147483648) (hQ : ∀ M', fz 0 46 M M' → RC n (pMvS n P z1 z2 z3 z4) T (hMvS n P H z1 z2 z3 z4) I E M' → Q (iI (rMv n P z1 z2 z3 z4)) M') : f_X7_moves N (iI z1) (iI z2) (iI z3) (iI z4) M Q := by
  unfold f_X7_moves
  unfold rMv pMvS hMvS at hQ
  have hn := h.1.1
  have bad : ¬ okMv n z1 z2 z3 z4 → Q (iI (-1)) M := by
    intro w
    rw [ifp_f (fun q => w q.1), ifp_f (fun q => w q.1), ifp_f w] at hQ
    exact hQ M fz.rf h
  refine t_X7_isArc h.1.1 h.1.2.1 h1.1 h1.2 (fun a e1 l1 => ?_) (fun w => ⟨fun _ => bad (fun q => w q.1), fun e => absurd rfl e⟩)
  refine ⟨fun e => absurd e (by decide), fun _ => ?_⟩
  refine t_X7_isPoint h2.1 h2.2 (fun i e2 l2 => ?_) (fun w => ⟨fun _ => bad (fun q => w q.2.1), fun e => absurd rfl e⟩)
  refine ⟨fun e => absurd e (by decide), fun _ => ?_⟩
  rw [iI_l h3.1 h3.2, iI_l h4.1 h4.2]
  refine t_X7_isCoordinate (by omega) (by omega) (fun l3 => ?_) (fun w => ⟨fun _ => bad (fun q => w q.2.2.1), fun e => absurd rfl e⟩)
  refine ⟨fun e => absurd e (by decide), fun _ => ?_⟩
  refine t_X7_isCoordinate (by omega) (by omega) (fun l4 => ?_) (fun w => ⟨fun e => absurd rfl e, fun _ => bad (fun q => w q.2.2.2)⟩)
  have ok : okMv n z1 z2 z3 z4 := ⟨by omega, by omega, l3, l4⟩
  have hA := h.1.2.2.1 a l1
  have e5 : (2 : Int32) * iI z2 = iI ((2 * i : Nat) : Int) := by rw [e2, iI_2, iI_mul]; congr 1 <;> omega
  have e6 : iI ((2 * i : Nat) : Int) + 1 = iI ((2 * i + 1 : Nat) : Int) := by rw [iI_1, iI_add]; rfl
  subst e1
  have v1 : vp_in (iI (a : Int)) 4 := iI_in0 (by omega) (by omega) (by decide)
  have v2 : vp_in (iI ((2 * i : Nat) : Int)) 8 := iI_in0 (by omega) (by omega) (by decide)
  have v3 : vp_in (iI ((2 * i + 1 : Nat) : Int)) 8 := iI_in0 (by omega) (by omega) (by decide)
  have t2 : z2.toNat = i := by omega
  have change : ¬ saMv P (a : Int) z2 z3 z4 → f_X7_moves_b74 N (iI (a : Int)) (iI z2) (iI z3) (iI z4) (5 + 6 * a) M Q := by
    intro ns
    rw [ifp_t ⟨ok, ns⟩, ifp_t ⟨ok, ns⟩, ifp_t ok, ifp_f ns, toN, t2] at hQ
    unfold f_X7_moves_b74
    refine c_start hN h l1 (fun M3 M5 f3 f5 h5 c5 => ?_)
    rw [e5, e6]
    refine ⟨v2, fun M12 g12 => ⟨v3, fun M13 g13 => ?_⟩⟩
    rw [zst_iI (by omega) (by omega), toN] at g12 g13
    have f13 : fz (5 + 6 * a + 1) (5 + 6 * a + 5) M5 M13 := by subst g12; subst g13; exact (fz_wI (by omega) (by omega)).tr (fz_wI (by omega) (by omega))
    refine t_X0_halveAll hN (pMv_ok (i := i) hA.1 l3 l4) (fun k hk => ?_) (fun M15 f15 r15 => ?_)
    · subst g13; rw [zwI_1]
      unfold pMv
      by_cases hk1 : k = 2 * i + 1
      · rw [if_pos ⟨rfl, hk1⟩, if_neg (by omega), if_pos hk1]
      · rw [if_neg (by omega)]
        subst g12; rw [zwI_1]
        by_cases hk0 : k = 2 * i
        · rw [if_pos ⟨rfl, hk0⟩, if_pos hk0]
        · rw [if_neg (by omega), if_neg hk0, if_neg hk1, (f5 (5 + 6 * a + 1) (by omega)).1, (f3 (5 + 6 * a + 1) (by omega)).1]
          exact hA.2.1 k hk
    · obtain ⟨w1, w2⟩ := RC_chg h l1 f3 f5 h5 c5 (f13.tr (fz_wide f15 (by omega) (by omega))) r15
      exact hQ M15 w1 w2
  refine ⟨fun _ => ⟨v1, ?_⟩, fun e => absurd e (by decide)⟩
  rw [e5, e6, clN (by omega)]
  have rr : ∀ k : Nat, k < 8 → zrd M (5 + 6 * a + 1) (iI (k : Int)) = iI (P a k) := fun k hk => by rw [zrd_iI (by omega) (by omega), toN]; exact hA.2.1 k hk
  have b0 := hA.1 (2 * i) (by omega)
  have b1 := hA.1 (2 * i + 1) (by omega)
  rw [rr _ (by omega), rr _ (by omega), iI_eq (by omega) (by omega) (by omega) (by omega), iI_eq (by omega) (by omega) (by omega) (by omega)]
  refine ⟨v2, fun c => change (fun q => c (by have := q.1; rw [toN, t2] at this; exact this)), fun c => ⟨v3, fun c2 => change (fun q => c2 (by have := q.2; rw [toN, t2] at this; exact this)), fun c2 => ?_⟩⟩
  have sa : saMv P (a : Int) z2 z3 z4 := ⟨by rw [toN, t2]; exact c, by rw [toN, t2]; exact c2⟩
  rw [ifp_f (fun q => q.2 sa), ifp_f (fun q => q.2 sa), ifp_t ok, ifp_t sa] at hQ
  exact hQ M fz.rf h
def okSh (n : Nat) (P : Nat → Nat → Int) (z1 z2 z3 : Int) : Prop := (0 ≤ z1 ∧ z1 < n) ∧ cSh (P z1.toNat) z2 z3 4
noncomputable def rSh (n : Nat) (P : Nat → Nat → Int) (z1 z2 z3 : Int) : Int := ifp (okSh n P z1 z2 z3) (ifp (z2 = 0 ∧ z3 = 0) (-2) 1) (-1)
noncomputable def pShS (n : Nat) (P : Nat → Nat → Int) (z1 z2 z3 : Int) : Nat → Nat → Int := ifp (okSh n P z1 z2 z3 ∧ ¬ (z2 = 0 ∧ z3 = 0)) (upA P z1.toNat (pSh (P z1.toNat) z2 z3)) P
noncomputable def hShS (n : Nat) (P : Nat → Nat → Int) (H : HiS) (z1 z2 z3 : Int) : HiS := ifp (okSh n P z1 z2 z3 ∧ ¬ (z2 = 0 ∧ z3 = 0)) (pushH P H z1.toNat) H
theorem c_shifts {N n : Nat} {P : Nat → Nat → Int} {T : TxS} {H : HiS} {I : ImS} {E : SeS} {z1 z2 z3 : Int} {M : zMem} {Q : Int32 → zMem → Prop} (hN : 100 ≤ N) (h : RC n P T H I E M) (h1 : -2147483648 ≤ z1 ∧ z1 < 2147483648) (h2 : -2147483648 ≤ z2 ∧ z2 < 2147483648) (h3 : -2147483648 ≤ z3 ∧ z3 < 2147483648) (hQ : ∀ M', fz 0 46 M M' → RC n (pShS n P z1 z2 z3) T (hShS n P H z1 z2 z3) I E M' → Q (iI (rSh n P z1 z2 z3)) M') : f_X7_shifts N (iI z1) (iI z2) (iI z3) M Q := by
  unfold f_X7_shifts
  unfold rSh pShS hShS at hQ
  have hn := h.1.1
  have bad : ¬ okSh n P z1 z2 z3 → Q (iI (-1)) M := by
    intro w
    rw [ifp_f (fun q => w q.1), ifp_f (fun q => w q.1), ifp_f w] at hQ
    exact hQ M fz.rf h
  refine t_X7_isArc h.1.1 h.1.2.1 h1.1 h1.2 (fun a e1 l1 => ?_) (fun w => ⟨fun _ => bad (fun q => w q.1), fun e => absurd rfl e⟩)
  subst e1
  have hA := h.1.2.2.1 a l1
  have v1 : vp_in (iI (a : Int)) 4 := iI_in0 (by omega) (by omega) (by decide)
  refine ⟨fun e => absurd e (by decide), fun _ => ⟨v1, ?_⟩⟩
  rw [clN (by omega)]
  refine t_X0_canShift hN hA.1 hA.2.1 h2 h3 (fun k => ?_) (fun w => ⟨fun e => absurd rfl e, fun _ => bad (fun q => w (by have := q.2; rw [toN] at this; exact this))⟩)
  have ok : okSh n P (a : Int) z2 z3 := ⟨by omega, by rw [toN]; exact k⟩
  have change : ¬ (z2 = 0 ∧ z3 = 0) → f_X7_shifts_b35 N (iI (a : Int)) (iI z2) (iI z3) M Q := by
    intro ns
    rw [ifp_t ⟨ok, ns⟩, ifp_t ⟨ok, ns⟩, ifp_t ok, ifp_f ns, toN] at hQ
    unfold f_X7_shifts_b35
    refine c_start hN h l1 (fun M3 M5 f3 f5 h5 c5 => ⟨v1, ?_⟩)
    rw [clN (by omega)]
    refine t_X0_shiftAll hN k (fun j hj => by rw [(f5 (5 + 6 * a + 1) (by omega)).1, (f3 (5 + 6 * a + 1) (by omega)).1]; exact hA.2.1 j hj) (fun M7 f7 r7 => ?_)
    obtain ⟨w1, w2⟩ := RC_chg h l1 f3 f5 h5 c5 f7 r7
    exact hQ M7 w1 w2
  refine ⟨fun _ => ⟨fun c => ?_, fun c => ⟨fun c2 => ?_, fun c2 => ?_⟩⟩, fun e => absurd e (by decide)⟩
  · simp (disch := omega) only [iI_m1, iI_0, iI_1, iI_2, iI_3, iI_4, iI_5, iI_6, iI_7, iI_8, iI_9, iI_10, iI_11, iI_12, iI_13, iI_16, iI_18, iI_20, iI_24, iI_31, iI_32, iI_33, iI_36, iI_48, iI_57, iI_59, iI_63, iI_64, iI_97, iI_100, iI_101, iI_130, iI_255, iI_256, iI_512, iI_1000, iI_1009, iI_2000, iI_2048, iI_32768, iI_2147483647, iI_add, iI_sub, iI_mul, iI_neg, iI_lt, iI_le, iI_eq, iI_in] at c
    exact change (fun q => c q.1)
  · simp (disch := omega) only [iI_m1, iI_0, iI_1, iI_2, iI_3, iI_4, iI_5, iI_6, iI_7, iI_8, iI_9, iI_10, iI_11, iI_12, iI_13, iI_16, iI_18, iI_20, iI_24, iI_31, iI_32, iI_33, iI_36, iI_48, iI_57, iI_59, iI_63, iI_64, iI_97, iI_100, iI_101, iI_130, iI_255, iI_256, iI_512, iI_1000, iI_1009, iI_2000, iI_2048, iI_32768, iI_2147483647, iI_add, iI_sub, iI_mul, iI_neg, iI_lt, iI_le, iI_eq, iI_in] at c c2
    exact change (fun q => c2 q.2)
  · simp (disch := omega) only [iI_m1, iI_0, iI_1, iI_2, iI_3, iI_4, iI_5, iI_6, iI_7, iI_8, iI_9, iI_10, iI_11, iI_12, iI_13, iI_16, iI_18, iI_20, iI_24, iI_31, iI_32, iI_33, iI_36, iI_48, iI_57, iI_59, iI_63, iI_64, iI_97, iI_100, iI_101, iI_130, iI_255, iI_256, iI_512, iI_1000, iI_1009, iI_2000, iI_2048, iI_32768, iI_2147483647, iI_add, iI_sub, iI_mul, iI_neg, iI_lt, iI_le, iI_eq, iI_in] at c c2
    rw [ifp_f (fun q => q.2 ⟨c, c2⟩), ifp_f (fun q => q.2 ⟨c, c2⟩), ifp_t ok, ifp_t ⟨c, c2⟩] at hQ
    exact hQ M fz.rf h
noncomputable def rRv (n : Nat) (z : Int) : Int := ifp (0 ≤ z ∧ z < n) 1 (-1)
noncomputable def pRvS (n : Nat) (P : Nat → Nat → Int) (z : Int) : Nat → Nat → Int := ifp (0 ≤ z ∧ z < n) (upA P z.toNat (pRv (P z.toNat))) P
noncomputable def hRvS (n : Nat) (P : Nat → Nat → Int) (H : HiS) (z : Int) : HiS := ifp (0 ≤ z ∧ z < n) (pushH P H z.toNat) H
theorem c_reverses {N n : Nat} {P : Nat → Nat → Int} {T : TxS} {H : HiS} {I : ImS} {E : SeS} {z : Int} {M : zMem} {Q : Int32 → zMem → Prop} (hN : 100 ≤ N) (h : RC n P T H I E M) (h1 : -2147483648 ≤ z ∧ z < 2147483648) (hQ : ∀ M', fz 0 46 M M' → RC n (pRvS n P z) T (hRvS n P H z) I E M' → Q (iI (rRv n z)) M') : f_X7_reverses N (iI z) M Q := by
  unfold f_X7_reverses
  unfold rRv pRvS hRvS at hQ
  have hn := h.1.1
  refine t_X7_isArc h.1.1 h.1.2.1 h1.1 h1.2 (fun a e1 l1 => ?_) (fun w => ?_)
  · rw [ifp_t (by omega), ifp_t (by omega), ifp_t (by omega)] at hQ
    subst e1
    rw [toN] at hQ
    have hA := h.1.2.2.1 a l1
    refine ⟨fun _ => ?_, fun e => absurd e (by decide)⟩
    refine c_start hN h l1 (fun M3 M5 f3 f5 h5 c5 => ⟨iI_in0 (by omega) (by omega) (by decide), ?_⟩)
    rw [clN (by omega)]
    refine t_X0_turnRound hN hA.1 (fun j hj => by rw [(f5 (5 + 6 * a + 1) (by omega)).1, (f3 (5 + 6 * a + 1) (by omega)).1]; exact hA.2.1 j hj) (fun M7 f7 r7 => ?_)
    obtain ⟨w1, w2⟩ := RC_chg h l1 f3 f5 h5 c5 f7 r7
    exact hQ M7 w1 w2
  · rw [ifp_f w, ifp_f w, ifp_f w] at hQ
    exact ⟨fun e => absurd rfl e, fun _ => hQ M fz.rf h⟩
noncomputable def rUn (H : HiS) : Int := ifp (0 < H.1) ((H.1 : Int) - 1) (-2)
noncomputable def pUnS (P : Nat → Nat → Int) (H : HiS) : Nat → Nat → Int := ifp (0 < H.1) (upA P (H.2.1 0) (H.2.2 0)) P
noncomputable def hUnS (H : HiS) : HiS := ifp (0 < H.1) (popH H) H
theorem c_undo {N n : Nat} {P : Nat → Nat → Int} {T : TxS} {H : HiS} {I : ImS} {E : SeS} {M : zMem} {Q : Int32 → zMem → Prop} (hN : 100 ≤ N) (h : RC n P T H I E M) (hQ : ∀ M', fz 0 46 M M' → RC n (pUnS P H) T (hUnS H) I E M' → Q (iI (rUn H)) M') : f_X7_undo N M Q := by
  unfold f_X7_undo
  unfold rUn pUnS hUnS at hQ
  have hn := h.1.1
  have hH := h.2.2.1
  have hl := hH.1
  rw [hH.2.1]
  refine ⟨fun c v1 e1 M2 e2 => ?_, fun c => ?_⟩
  · simp (disch := omega) only [iI_m1, iI_0, iI_1, iI_2, iI_3, iI_4, iI_5, iI_6, iI_7, iI_8, iI_9, iI_10, iI_11, iI_12, iI_13, iI_16, iI_18, iI_20, iI_24, iI_31, iI_32, iI_33, iI_36, iI_48, iI_57, iI_59, iI_63, iI_64, iI_97, iI_100, iI_101, iI_130, iI_255, iI_256, iI_512, iI_1000, iI_1009, iI_2000, iI_2048, iI_32768, iI_2147483647, iI_add, iI_sub, iI_mul, iI_neg, iI_lt, iI_le, iI_eq, iI_in] at c
    rw [ifp_t (by omega), ifp_t (by omega), ifp_t (by omega)] at hQ
    rw [iI_1, iI_sub, show (H.1 : Int) - 1 = ((H.1 - 1 : Nat) : Int) by omega] at e1
    subst e1
    rw [show (H.1 : Int) - 1 = ((H.1 - 1 : Nat) : Int) by omega] at hQ
    obtain ⟨s1, s2, s3, s4⟩ := hH.2.2 0 (by omega)
    rw [Nat.sub_zero] at s3 s4
    have f2 : fz 29 29 M M2 := by subst e2; exact fz_wI (by decide) (by decide)
    have e8 : iI ((H.1 - 1 : Nat) : Int) * (8 : Int32) = iI ((8 * (H.1 - 1) : Nat) : Int) := by rw [iI_8, iI_mul]; congr 1 <;> omega
    rw [zrd_iI (by omega) (by omega), toN, (f2 30 (by omega)).1, s3, e8, clN (by omega)]
    refine ⟨iI_in0 (by omega) (by omega) (by decide), iI_in0 (by omega) (by omega) (by decide), ?_⟩
    refine t_X0_takes hN s2 (by omega) (by rw [show zln 31 = 80 by decide]; omega) (by omega) (fun k hk => by rw [(f2 31 (by omega)).1]; exact s4 k hk) (fun M5 f5 r5 => ?_)
    refine t_X3_outdate hN (fun M7 f7 c7 => ?_)
    have z7 : ∀ c, c < 29 → (c < 5 + 6 * H.2.1 0 + 1 ∨ 5 + 6 * H.2.1 0 + 5 < c) → M7.1 c = M.1 c := fun c w1 w2 => by rw [(f7 c (by omega)).1, (f5 c (by omega)).1, (f2 c (by omega)).1]
    refine hQ M7 (((fz_wide f2 (by omega) (by omega)).tr (fz_wide f5 (by omega) (by omega))).tr (fz_wide f7 (by omega) (by omega))) ⟨⟨hn, by rw [z7 0 (by omega) (by omega)]; exact h.1.2.1, fun k hk => ?_, (c7 n _).1, (c7 n _).2⟩, cT_fz (cT_fz (cT_fz h.2.1 f2 (by omega)) f5 (by omega)) f7 (by omega), ⟨?_, ?_, fun i hi => ?_⟩, cI_fz (cI_fz (cI_fz h.2.2.2.1 f2 (by omega)) f5 (by omega)) f7 (by omega), cS_fz (cS_fz (cS_fz h.2.2.2.2 f2 (by omega)) f5 (by omega)) f7 (by omega)⟩
    · by_cases hka : k = H.2.1 0
      · subst hka
        rw [upA_1]
        exact r5.fz f7 (by omega)
      · rw [upA_2 hka]
        exact (((h.1.2.2.1 k hk).fz f2 (by omega)).fz f5 (by omega)).fz f7 (by omega)
    · show H.1 - 1 ≤ 10
      omega
    · rw [(f7 29 (by omega)).1, (f5 29 (by omega)).1]
      subst e2
      rw [zwI_1, if_pos ⟨rfl, rfl⟩]
      rfl
    · have hi' : i < H.1 - 1 := hi
      obtain ⟨u1, u2, u3, u4⟩ := hH.2.2 (i + 1) (by omega)
      refine ⟨u1, u2, ?_, fun k hk => ?_⟩
      · rw [(f7 30 (by omega)).1, (f5 30 (by omega)).1, (f2 30 (by omega)).1]
        show M.1 30 (H.1 - 1 - 1 - i) = iI (H.2.1 (i + 1) : Int)
        rw [show H.1 - 1 - 1 - i = H.1 - 1 - (i + 1) by omega]
        exact u3
      · rw [(f7 31 (by omega)).1, (f5 31 (by omega)).1, (f2 31 (by omega)).1]
        show M.1 31 (8 * (H.1 - 1 - 1 - i) + k) = iI (H.2.2 (i + 1) k)
        rw [show H.1 - 1 - 1 - i = H.1 - 1 - (i + 1) by omega]
        exact u4 k hk
  · simp (disch := omega) only [iI_m1, iI_0, iI_1, iI_2, iI_3, iI_4, iI_5, iI_6, iI_7, iI_8, iI_9, iI_10, iI_11, iI_12, iI_13, iI_16, iI_18, iI_20, iI_24, iI_31, iI_32, iI_33, iI_36, iI_48, iI_57, iI_59, iI_63, iI_64, iI_97, iI_100, iI_101, iI_130, iI_255, iI_256, iI_512, iI_1000, iI_1009, iI_2000, iI_2048, iI_32768, iI_2147483647, iI_add, iI_sub, iI_mul, iI_neg, iI_lt, iI_le, iI_eq, iI_in] at c
    rw [ifp_f (by omega), ifp_f (by omega), ifp_f (by omega)] at hQ
    exact hQ M fz.rf h
