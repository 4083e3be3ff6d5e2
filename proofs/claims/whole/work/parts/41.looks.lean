/-! ===== point, apart, turn, bends, goes: both sides ===== -/
noncomputable def vPoint (n : Nat) (P : Nat → Nat → Int) (z1 z2 z3 z4 : Int) : Int := ifp ((0 ≤ z1 ∧ z1 < n) ∧ (1 ≤ z2 ∧ z2 < 64) ∧ (0 ≤ z3 ∧ z3 < 4) ∧ (0 ≤ z4 ∧ z4 < 2)) (nd (P z1.toNat) z2.toNat z3.toNat z4.toNat) (-2147483647)
theorem toN (a : Nat) : ((a : Int)).toNat = a := by omega
theorem clN {a : Nat} (h : a < 2147483648) : (iI (a : Int)).toNatClampNeg = a := by rw [iI_cl (by omega) (by omega), toN]
theorem c_point {N n : Nat} {P : Nat → Nat → Int} {z1 z2 z3 z4 : Int} {M : zMem} {Q : Int32 → zMem → Prop} (h : cA n P M) (h1 : -2147483648 ≤ z1 ∧ z1 < 2147483648) (h2 : -2147483648 ≤ z2 ∧ z2 < 2147483648) (h3 : -2147483648 ≤ z3 ∧ z3 < 2147483648) (h4 : -2147483648 ≤ z4 ∧ z4 < 2147483648) (hQ : Q (iI (vPoint n P z1 z2 z3 z4)) M) : f_X7_point N (iI z1) (iI z2) (iI z3) (iI z4) M Q := by
  unfold f_X7_point
  unfold vPoint at hQ
  refine t_X7_isArc h.1 h.2.1 h1.1 h1.2 (fun a e1 l1 => ?_) (fun w => ?_)
  · refine ⟨fun e => absurd e (by decide), fun _ => ?_⟩
    refine t_X7_isNode h2.1 h2.2 (fun m e2 l2 l2' => ?_) (fun w => ?_)
    · refine ⟨fun e => absurd e (by decide), fun _ => ?_⟩
      refine t_X7_isPoint h3.1 h3.2 (fun i e3 l3 => ?_) (fun w => ?_)
      · refine ⟨fun e => absurd e (by decide), fun _ => ?_⟩
        refine t_X7_isAxis h4.1 h4.2 (fun ax e4 l4 => ?_) (fun w => ?_)
        · rw [ifp_t (by omega)] at hQ
          subst e1; subst e2; subst e3; subst e4
          have hn := h.1
          refine ⟨fun _ => ⟨iI_in0 (by omega) (by omega) (by decide), ?_⟩, fun e => absurd e (by decide)⟩
          rw [clN (by omega)]
          simp only [toN] at hQ
          exact t_X0_at l2' l3 l4 ((h.2.2.1 a l1).2.2.1 m l2 l2') hQ
        · rw [ifp_f (by omega)] at hQ
          exact ⟨fun e => absurd rfl e, fun _ => hQ⟩
      · rw [ifp_f (by omega)] at hQ
        exact ⟨fun _ => hQ, fun e => absurd rfl e⟩
    · rw [ifp_f (by omega)] at hQ
      exact ⟨fun _ => hQ, fun e => absurd rfl e⟩
  · rw [ifp_f (by omega)] at hQ
    exact ⟨fun _ => hQ, fun e => absurd rfl e⟩
theorem RR_n {n : Nat} {P : Nat → Nat → Int} {M : zMem} (h : RRl n P M) : n ≤ 4 ∧ M.1 47 1 = iI (n : Int) := ⟨h.1.1, h.1.2.1⟩
/-- the reference lays out its nodes, if it has not -/
theorem r_lays {N n : Nat} {P : Nat → Nat → Int} {T : TxS} {H : HiS} {I : ImS} {E : SeS} {M : zMem} {Q : zMem → Prop} (hN : 3000 ≤ N) (h : RR n P T H I E M) (hQ : ∀ M', fz 47 62 M M' → RR n P T H I E M' → (∀ a, a < n → RLd (P a) a M') → Q M') : f_X8_lays N M Q := by
  refine t_X8_lays hN h.1.1 h.1.2 (fun M' f1 e1 r1 => ?_)
  refine hQ M' (fz_rSet (fs_lr f1)) (RR_r h (fs_lr f1) ⟨h.1.1.fs f1 (by unfold laySet; omega) (fun k => by unfold laySet; omega), Or.inr ⟨e1, r1⟩⟩) r1
theorem r_point {N n : Nat} {P : Nat → Nat → Int} {T : TxS} {H : HiS} {I : ImS} {E : SeS} {z1 z2 z3 z4 : Int} {M : zMem} {Q : Int32 → zMem → Prop} (hN : 3000 ≤ N) (h : RR n P T H I E M) (h1 : -2147483648 ≤ z1 ∧ z1 < 2147483648) (h2 : -2147483648 ≤ z2 ∧ z2 < 2147483648) (h3 : -2147483648 ≤ z3 ∧ z3 < 2147483648) (h4 : -2147483648 ≤ z4 ∧ z4 < 2147483648) (hQ : ∀ M', fz 47 62 M M' → RR n P T H I E M' → Q (iI (vPoint n P z1 z2 z3 z4)) M') : f_X8_point N (iI z1) (iI z2) (iI z3) (iI z4) M Q := by
  unfold f_X8_point
  unfold vPoint at hQ
  intro M1 e
  have f1 : fz 47 62 M M1 := by rw [e]; exact fz_0
  have r1 : RR n P T H I E M1 := by rw [e]; exact RR_0 h
  have hn := RR_n r1.1
  refine t_X8_isArc hn.1 hn.2 h1.1 h1.2 (fun a e1 l1 => ?_) (fun w => ?_)
  · refine ⟨fun e => absurd e (by decide), fun _ => ?_⟩
    refine t_X8_isNode h2.1 h2.2 (fun m e2 l2 l2' => ?_) (fun w => ?_)
    · refine ⟨fun e => absurd e (by decide), fun _ => ?_⟩
      refine t_X8_upTo (h := 3) h3.1 h3.2 (by decide) (fun i e3 l3 => ?_) (fun w => ?_)
      · refine ⟨fun e => absurd e (by decide), fun _ => ?_⟩
        refine t_X8_upTo (h := 1) h4.1 h4.2 (by decide) (fun ax e4 l4 => ?_) (fun w => ?_)
        · rw [ifp_t (by omega)] at hQ
          subst e1; subst e2; subst e3; subst e4
          refine ⟨fun _ => ?_, fun e => absurd e (by decide)⟩
          refine r_lays hN r1 (fun M' f2 r2 d2 => ?_)
          simp only [toN] at hQ
          exact t_X8_at (d2 a l1) l2 l2' (by omega) (by omega) (hQ M' (f1.tr f2) r2)
        · rw [ifp_f (by omega)] at hQ
          exact ⟨fun e => absurd rfl e, fun _ => hQ M1 f1 r1⟩
      · rw [ifp_f (by omega)] at hQ
        exact ⟨fun _ => hQ M1 f1 r1, fun e => absurd rfl e⟩
    · rw [ifp_f (by omega)] at hQ
      exact ⟨fun _ => hQ M1 f1 r1, fun e => absurd rfl e⟩
  · rw [ifp_f (by omega)] at hQ
    exact ⟨fun _ => hQ M1 f1 r1, fun e => absurd rfl e⟩
noncomputable def vApart (n : Nat) (P : Nat → Nat → Int) (z1 z2 z3 z4 : Int) : Int := ifp (((0 ≤ z1 ∧ z1 < n) ∧ (0 ≤ z3 ∧ z3 < n) ∧ z1 ≠ z3) ∧ (1 ≤ z2 ∧ z2 < 64) ∧ (1 ≤ z4 ∧ z4 < 64)) (apt (P z1.toNat) z2.toNat (P z3.toNat) z4.toNat) (-1)
theorem c_apart {N n : Nat} {P : Nat → Nat → Int} {z1 z2 z3 z4 : Int} {M : zMem} {Q : Int32 → zMem → Prop} (hN : 3000 ≤ N) (h : cA n P M) (h1 : -2147483648 ≤ z1 ∧ z1 < 2147483648) (h2 : -2147483648 ≤ z2 ∧ z2 < 2147483648) (h3 : -2147483648 ≤ z3 ∧ z3 < 2147483648) (h4 : -2147483648 ≤ z4 ∧ z4 < 2147483648) (hQ : Q (iI (vApart n P z1 z2 z3 z4)) M) : f_X7_apart N (iI z1) (iI z2) (iI z3) (iI z4) M Q := by
  unfold f_X7_apart
  unfold vApart at hQ
  have hn := h.1
  refine t_X7_areTwoArcs h.1 h.2.1 h1.1 h1.2 h3.1 h3.2 (fun a b e1 l1 e3 l3 ne => ?_) (fun w => ?_)
  · refine ⟨fun e => absurd e (by decide), fun _ => ?_⟩
    refine t_X7_isNode h2.1 h2.2 (fun m e2 l2 l2' => ?_) (fun w => ?_)
    · refine ⟨fun e => absurd e (by decide), fun _ => ?_⟩
      refine t_X7_isNode h4.1 h4.2 (fun m4 e4 l4 l4' => ?_) (fun w => ?_)
      · rw [ifp_t (by omega)] at hQ
        subst e1; subst e2; subst e3; subst e4
        refine ⟨fun _ => ⟨iI_in0 (by omega) (by omega) (by decide), iI_in0 (by omega) (by omega) (by decide), ?_⟩, fun e => absurd e (by decide)⟩
        rw [clN (by omega), clN (by omega)]
        simp only [toN] at hQ
        exact t_X4_whyApart (by omega) (h.2.2.1 a l1) (h.2.2.1 b l3) l2 l2' l4 l4' hQ
      · rw [ifp_f (by omega)] at hQ
        exact ⟨fun e => absurd rfl e, fun _ => hQ⟩
    · rw [ifp_f (by omega)] at hQ
      exact ⟨fun _ => hQ, fun e => absurd rfl e⟩
  · rw [ifp_f (by omega)] at hQ
    exact ⟨fun _ => hQ, fun e => absurd rfl e⟩
theorem r_apart {N n : Nat} {P : Nat → Nat → Int} {T : TxS} {H : HiS} {I : ImS} {E : SeS} {z1 z2 z3 z4 : Int} {M : zMem} {Q : Int32 → zMem → Prop} (hN : 3000 ≤ N) (h : RR n P T H I E M) (h1 : -2147483648 ≤ z1 ∧ z1 < 2147483648) (h2 : -2147483648 ≤ z2 ∧ z2 < 2147483648) (h3 : -2147483648 ≤ z3 ∧ z3 < 2147483648) (h4 : -2147483648 ≤ z4 ∧ z4 < 2147483648) (hQ : ∀ M', fz 47 62 M M' → RR n P T H I E M' → Q (iI (vApart n P z1 z2 z3 z4)) M') : f_X8_apart N (iI z1) (iI z2) (iI z3) (iI z4) M Q := by
  unfold f_X8_apart
  unfold vApart at hQ
  intro M1 e
  have f1 : fz 47 62 M M1 := by rw [e]; exact fz_0
  have r1 : RR n P T H I E M1 := by rw [e]; exact RR_0 h
  have hn := RR_n r1.1
  refine t_X8_arePair hn.1 hn.2 h1.1 h1.2 h3.1 h3.2 (fun a b e1 l1 e3 l3 ne => ?_) (fun w => ?_)
  · refine ⟨fun e => absurd e (by decide), fun _ => ?_⟩
    refine t_X8_isNode h2.1 h2.2 (fun m e2 l2 l2' => ?_) (fun w => ?_)
    · refine ⟨fun e => absurd e (by decide), fun _ => ?_⟩
      refine t_X8_isNode h4.1 h4.2 (fun m4 e4 l4 l4' => ?_) (fun w => ?_)
      · rw [ifp_t (by omega)] at hQ
        subst e1; subst e2; subst e3; subst e4
        refine ⟨fun _ => ?_, fun e => absurd e (by decide)⟩
        refine r_lays hN r1 (fun M' f2 r2 d2 => ?_)
        simp only [toN] at hQ
        exact t_X8_apartOf (by omega) (d2 a l1) (d2 b l3) l2 l2' l4 l4' (hQ M' (f1.tr f2) r2)
      · rw [ifp_f (by omega)] at hQ
        exact ⟨fun e => absurd rfl e, fun _ => hQ M1 f1 r1⟩
    · rw [ifp_f (by omega)] at hQ
      exact ⟨fun _ => hQ M1 f1 r1, fun e => absurd rfl e⟩
  · rw [ifp_f (by omega)] at hQ
    exact ⟨fun _ => hQ M1 f1 r1, fun e => absurd rfl e⟩
noncomputable def tnv (p : Nat → Int) (m : Nat) (q : Nat → Int) (n : Nat) : Int := ifp (trn p m q n = 0) 0 (ifp (trn p m q n = 1) 1 2 + ifp (cro p m q n) 2 0)
noncomputable def vTurn (n : Nat) (P : Nat → Nat → Int) (z1 z2 z3 z4 : Int) : Int := ifp (((0 ≤ z1 ∧ z1 < n) ∧ (0 ≤ z3 ∧ z3 < n) ∧ z1 ≠ z3) ∧ (1 ≤ z2 ∧ z2 < 64) ∧ (1 ≤ z4 ∧ z4 < 64)) (tnv (P z1.toNat) z2.toNat (P z3.toNat) z4.toNat) (-1)
theorem c_turn {N n : Nat} {P : Nat → Nat → Int} {z1 z2 z3 z4 : Int} {M : zMem} {Q : Int32 → zMem → Prop} (hN : 3000 ≤ N) (h : cA n P M) (h1 : -2147483648 ≤ z1 ∧ z1 < 2147483648) (h2 : -2147483648 ≤ z2 ∧ z2 < 2147483648) (h3 : -2147483648 ≤ z3 ∧ z3 < 2147483648) (h4 : -2147483648 ≤ z4 ∧ z4 < 2147483648) (hQ : Q (iI (vTurn n P z1 z2 z3 z4)) M) : f_X7_turn N (iI z1) (iI z2) (iI z3) (iI z4) M Q := by
  unfold f_X7_turn
  unfold vTurn at hQ
  have hn := h.1
  refine t_X7_areTwoArcs h.1 h.2.1 h1.1 h1.2 h3.1 h3.2 (fun a b e1 l1 e3 l3 ne => ?_) (fun w => ?_)
  · refine ⟨fun e => absurd e (by decide), fun _ => ?_⟩
    refine t_X7_isNode h2.1 h2.2 (fun m e2 l2 l2' => ?_) (fun w => ?_)
    · refine ⟨fun e => absurd e (by decide), fun _ => ?_⟩
      refine t_X7_isNode h4.1 h4.2 (fun m4 e4 l4 l4' => ?_) (fun w => ?_)
      · rw [ifp_t (by omega)] at hQ
        subst e1; subst e2; subst e3; subst e4
        have va : vp_in (iI (a : Int)) 4 := iI_in0 (by omega) (by omega) (by decide)
        have vb : vp_in (iI (b : Int)) 4 := iI_in0 (by omega) (by omega) (by decide)
        refine ⟨fun _ => ⟨va, vb, ?_⟩, fun e => absurd e (by decide)⟩
        rw [clN (by omega), clN (by omega)]
        simp only [toN] at hQ
        have tin := trn_in (P a) m (P b) m4
        have ends : trn (P a) m (P b) m4 ≠ 0 → ∀ s : Int, s = ifp (trn (P a) m (P b) m4 = 1) 1 2 → f_X7_turn_b63 N (iI (a : Int)) (iI (m : Int)) (iI (b : Int)) (iI (m4 : Int)) (iI s) M Q := by
          intro t0 s hs
          unfold f_X7_turn_b63
          rw [clN (by omega), clN (by omega)]
          unfold tnv at hQ
          rw [ifp_f t0, ← hs] at hQ
          refine ⟨va, vb, t_X4_endsCross (h.2.2.1 a l1) (h.2.2.1 b l3) l2 l2' l4 l4' (fun k => ?_) (fun k => ?_)⟩
          · rw [ifp_t ⟨t0, k⟩] at hQ
            refine ⟨fun e => absurd e (by decide), fun _ => ?_⟩
            rw [iI_2, iI_add]
            exact hQ
          · rw [ifp_f (fun w => k w.2), Int.add_zero] at hQ
            exact ⟨fun _ => hQ, fun e => absurd rfl e⟩
        refine t_X4_wayOfTurn (by omega) (h.2.2.1 a l1) (h.2.2.1 b l3) l2 l2' l4 l4' ?_
        rcases tin with t | t | t
        · rw [t]
          exact ⟨fun _ => ⟨fun e => absurd e (by decide), fun _ => ends (by omega) 1 (by rw [ifp_t t])⟩, fun e => absurd e (by decide)⟩
        · rw [t]
          exact ⟨fun _ => ⟨fun _ => ends (by omega) 2 (by rw [ifp_f (by omega)]), fun e => absurd (by decide) e⟩, fun e => absurd e (by decide)⟩
        · rw [t]
          refine ⟨fun e => absurd rfl e, fun _ => ?_⟩
          unfold tnv at hQ
          rw [ifp_t t] at hQ
          exact hQ
      · rw [ifp_f (by omega)] at hQ
        exact ⟨fun e => absurd rfl e, fun _ => hQ⟩
    · rw [ifp_f (by omega)] at hQ
      exact ⟨fun _ => hQ, fun e => absurd rfl e⟩
  · rw [ifp_f (by omega)] at hQ
    exact ⟨fun _ => hQ, fun e => absurd rfl e⟩
theorem r_turn {N n : Nat} {P : Nat → Nat → Int} {T : TxS} {H : HiS} {I : ImS} {E : SeS} {z1 z2 z3 z4 : Int} {M : zMem} {Q : Int32 → zMem → Prop} (hN : 3000 ≤ N) (h : RR n P T H I E M) (h1 : -2147483648 ≤ z1 ∧ z1 < 2147483648) (h2 : -2147483648 ≤ z2 ∧ z2 < 2147483648) (h3 : -2147483648 ≤ z3 ∧ z3 < 2147483648) (h4 : -2147483648 ≤ z4 ∧ z4 < 2147483648) (hQ : ∀ M', fz 47 62 M M' → RR n P T H I E M' → Q (iI (vTurn n P z1 z2 z3 z4)) M') : f_X8_turn N (iI z1) (iI z2) (iI z3) (iI z4) M Q := by
  unfold f_X8_turn
  unfold vTurn at hQ
  intro M1 e
  have f1 : fz 47 62 M M1 := by rw [e]; exact fz_0
  have r1 : RR n P T H I E M1 := by rw [e]; exact RR_0 h
  have hn := RR_n r1.1
  refine t_X8_arePair hn.1 hn.2 h1.1 h1.2 h3.1 h3.2 (fun a b e1 l1 e3 l3 ne => ?_) (fun w => ?_)
  · refine ⟨fun e => absurd e (by decide), fun _ => ?_⟩
    refine t_X8_isNode h2.1 h2.2 (fun m e2 l2 l2' => ?_) (fun w => ?_)
    · refine ⟨fun e => absurd e (by decide), fun _ => ?_⟩
      refine t_X8_isNode h4.1 h4.2 (fun m4 e4 l4 l4' => ?_) (fun w => ?_)
      · rw [ifp_t (by omega)] at hQ
        subst e1; subst e2; subst e3; subst e4
        refine ⟨fun _ => ?_, fun e => absurd e (by decide)⟩
        refine r_lays hN r1 (fun M' f2 r2 d2 => ?_)
        simp only [toN] at hQ
        have hQ' := hQ M' (f1.tr f2) r2
        have tin := trn_in (P a) m (P b) m4
        have ends : ∀ s : Int, s = ifp (trn (P a) m (P b) m4 = 0) 0 (ifp (trn (P a) m (P b) m4 = 1) 1 2) → f_X8_turn_b65 N (iI (a : Int)) (iI (m : Int)) (iI (b : Int)) (iI (m4 : Int)) (iI s) M' Q := by
          intro s hs
          unfold f_X8_turn_b65
          unfold tnv at hQ'
          refine t_X8_areCrossed (by omega) (d2 a l1) (d2 b l3) l2 l2' l4 l4' (fun k => ?_) (fun k => ?_)
          · rw [ifp_f k.1, ifp_t k] at hQ'
            rw [ifp_f k.1] at hs
            rw [← hs] at hQ'
            refine ⟨fun e => absurd e (by decide), fun _ => ?_⟩
            rw [iI_2, iI_add]
            exact hQ'
          · rw [ifp_f k, Int.add_zero, ← hs] at hQ'
            exact ⟨fun _ => hQ', fun e => absurd rfl e⟩
        refine t_X8_turnOf (by omega) (d2 a l1) (d2 b l3) l2 l2' l4 l4' ?_
        rcases tin with t | t | t
        · rw [t]
          exact ⟨fun _ => ⟨fun e => absurd e (by decide), fun _ => ends 1 (by rw [ifp_f (by omega), ifp_t t])⟩, fun e => absurd e (by decide)⟩
        · rw [t]
          exact ⟨fun _ => ⟨fun _ => ends 2 (by rw [ifp_f (by omega), ifp_f (by omega)]), fun e => absurd (by decide) e⟩, fun e => absurd e (by decide)⟩
        · rw [t]
          exact ⟨fun e => absurd rfl e, fun _ => ends 0 (by rw [ifp_t t])⟩
      · rw [ifp_f (by omega)] at hQ
        exact ⟨fun e => absurd rfl e, fun _ => hQ M1 f1 r1⟩
    · rw [ifp_f (by omega)] at hQ
      exact ⟨fun _ => hQ M1 f1 r1, fun e => absurd rfl e⟩
  · rw [ifp_f (by omega)] at hQ
    exact ⟨fun _ => hQ M1 f1 r1, fun e => absurd rfl e⟩
