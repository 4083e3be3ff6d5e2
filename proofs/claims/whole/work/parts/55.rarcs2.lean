/-! ===== arcs: the reference, the whole text ===== -/
theorem RR_pk {n : Nat} {P : Nat → Nat → Int} {T : TxS} {H : HiS} {I : ImS} {E : SeS} {M M' : zMem} (h : RR n P T H I E M) (hf : fs pkS M M') : RR n P T H I E M' :=
  RR_q h (hf.wide (fun c k w => by unfold pkS at w; unfold qSet; omega)) (RRl_e h.1 (hf.2 _ _ (by unfold pkS; omega)) (hf.2 _ _ (by unfold pkS; omega)) (funext (fun k => hf.2 _ _ (by unfold pkS; omega))) (funext (fun k => hf.2 _ _ (by unfold pkS; omega))))
theorem fz_pk {M M' : zMem} (h : fs pkS M M') : fz 47 62 M M' := fs_fz h (fun c k w => by unfold pkS at w; omega)
theorem r_arcs {N n : Nat} {P : Nat → Nat → Int} {T : TxS} {H : HiS} {I : ImS} {E : SeS} {M : zMem} {Q : Int32 → zMem → Prop} (hN : 300 ≤ N) (h : RR n P T H I E M) (hQ0 : (RdT T).1 ≠ -1 → ∀ M', fz 47 62 M M' → RR n P T H I E M' → Q (iI (-10 - (RdT T).1)) M') (hQ1 : (RdT T).1 = -1 → ∀ M', fz 47 62 M M' → RR (RdT T).2.1 (pNew T) (0, T.2) (0, H.2) (iNo I) (0, E.2) M' → Q (iI ((RdT T).2.1 : Int)) M') : f_X8_arcs N M Q := by
  unfold f_X8_arcs
  intro M1 e1 M2 e2 M3 e3
  have f01 : fz 47 62 M M1 := by rw [e1]; exact fz_0
  have r1 : RR n P T H I E M1 := by rw [e1]; exact RR_0 h
  have f13 : fs pkS M1 M3 := by subst e2; subst e3; exact (fs_wI (by unfold pkS; omega)).tr (fs_wI (by unfold pkS; omega))
  have r3 := RR_pk r1 f13
  have f03 : fz 47 62 M M3 := f01.tr (fz_pk f13)
  have hT := r3.2.1
  have hl := hT.1
  have n3 : M3.1 47 14 = iI ((0 : Nat) : Int) := by subst e3; rw [zwI_1, if_pos ⟨rfl, rfl⟩]; rfl
  have a3 : M3.1 47 18 = iI ((0 : Nat) : Int) := by subst e3; rw [zwI_1, if_neg (by omega)]; subst e2; rw [zwI_1, if_pos ⟨rfl, rfl⟩]; rfl
  generalize hR : RdT T = R at hQ0 hQ1
  have hR0 : GP T 0 (0, -1, false, fun _ => 0) = R := by rw [← hR]; unfold GP RdT; rw [Nat.sub_zero]
  have b70 : ∀ (M' : zMem) (p' : Nat), fs pkS M3 M' → M'.1 47 15 = iI (p' : Int) → p' ≤ T.1 → R.1 = (p' : Int) → f_X8_arcs_b70 N M' Q := by
    intro M' p' f1 b1 l1 g1
    unfold f_X8_arcs_b70
    rw [b1, show (-10 : Int32) = iI (-10) from rfl, iI_sub, ← g1]
    exact hQ0 (by omega) M' (f03.tr (fz_pk f1)) (RR_pk r3 f1)
  have b47 : ∀ (k19 : zMem → Prop) (M' : zMem) (p' : Nat), fs pkS M3 M' → M'.1 47 15 = iI (p' : Int) → p' ≤ T.1 → R.1 = (p' : Int) → f_X8_arcs_b47 N k19 M' Q := by
    intro k19 M' p' f1 b1 l1 g1
    unfold f_X8_arcs_b47 f_X8_arcs_b48
    refine ⟨fun _ => ?_, fun e => absurd rfl e⟩
    unfold f_X8_arcs_b57
    exact ⟨fun _ => b70 M' p' f1 b1 l1 g1, fun e => absurd rfl e⟩
  have l87 : ∀ (it : Nat) (nu : Nat → Int) (M' : zMem), fs pkS M3 M' → M'.1 47 18 = iI (it : Int) → it ≤ 4 → (∀ k, k < 8 * it → (-9 ≤ nu k ∧ nu k ≤ 9) ∧ M'.1 56 k = iI (nu k)) → R = (-1, it, nu) → f_X8_arcs_l87 N Q N (iI ((0 : Nat) : Int)) M' := by
    intro it nu M' f1 a1 l1 q1 hE
    have rM := RR_pk r3 f1
    have hQ := hQ1 (by rw [hE])
    have lp : ∀ (r f k : Nat) (M2 : zMem), r + k = 32 → r + 1 ≤ f → fz 47 62 M' M2 → (∀ c j, ¬ (c = 48 ∧ j < k) → M2.1 c j = M'.1 c j) → (∀ j, j < k → M2.1 48 j = M'.1 56 j) → f_X8_arcs_l87 N Q f (iI (k : Int)) M2 := by
      intro r
      induction r with
      | zero =>
        intro f k M2 hk hf f2 o2 s2
        obtain ⟨f, rfl⟩ : ∃ g, f = g + 1 := ⟨f - 1, by omega⟩
        show f_X8_arcs_b87 N (f_X8_arcs_l87 N Q f) (iI (k : Int)) M2 Q
        unfold f_X8_arcs_b87
        refine ⟨fun _ M6 g6 M7 g7 M8 g8 M9 g9 => ⟨iI_in0 (z := 0) (by decide) (by decide) (by decide), fun M10 g10 => ⟨iI_in0 (z := 1) (by decide) (by decide) (by decide), fun M11 g11 M12 g12 => ?_⟩⟩, fun cc => ?_⟩
        · rw [o2 47 18 (by omega), a1] at g6
          rw [nar_0, iI_0, zst_iI (by decide) (by decide), show Int.toNat 0 = 0 from rfl] at g10
          rw [nar_0, iI_1, zst_iI (by decide) (by decide), show Int.toNat 1 = 1 from rfl] at g11
          have o12 : ∀ c j, ¬ (c = 48 ∧ j < k) → ¬ (c = 47 ∧ (j = 1 ∨ j = 11 ∨ j = 4 ∨ j = 7 ∨ j = 12)) → ¬ (c = 51 ∧ (j = 0 ∨ j = 1)) → M12.1 c j = M'.1 c j := fun c j w1 w2 w3 => by
            subst g12; rw [zwI_1, if_neg (by omega)]
            subst g11; rw [zwI_1, if_neg (show ¬ (c = 51 ∧ j = 1) by omega)]
            subst g10; rw [zwI_1, if_neg (show ¬ (c = 51 ∧ j = 0) by omega)]
            subst g9; rw [zwI_1, if_neg (by omega)]
            subst g8; rw [zwI_1, if_neg (by omega)]
            subst g7; rw [zwI_1, if_neg (by omega)]
            subst g6; rw [zwI_1, if_neg (by omega)]
            exact o2 c j w1
          have c48 : ∀ j, M12.1 48 j = M2.1 48 j := fun j => by
            subst g12; rw [zwI_1, if_neg (by omega)]
            subst g11; rw [zwI_1, if_neg (show ¬ (48 = 51 ∧ j = 1) by omega)]
            subst g10; rw [zwI_1, if_neg (show ¬ (48 = 51 ∧ j = 0) by omega)]
            subst g9; rw [zwI_1, if_neg (by omega)]
            subst g8; rw [zwI_1, if_neg (by omega)]
            subst g7; rw [zwI_1, if_neg (by omega)]
            subst g6; rw [zwI_1, if_neg (by omega)]
          have x1 : M12.1 47 1 = iI (it : Int) := by
            subst g12; rw [zwI_1, if_neg (by omega)]
            subst g11; rw [zwI_1, if_neg (show ¬ (47 = 51 ∧ 1 = 1) by omega)]
            subst g10; rw [zwI_1, if_neg (show ¬ (47 = 51 ∧ 1 = 0) by omega)]
            subst g9; rw [zwI_1, if_neg (by omega)]
            subst g8; rw [zwI_1, if_neg (by omega)]
            subst g7; rw [zwI_1, if_neg (by omega)]
            subst g6; rw [zwI_1, if_pos ⟨rfl, rfl⟩]
          have x11 : M12.1 47 11 = iI 0 := by
            subst g12; rw [zwI_1, if_neg (by omega)]
            subst g11; rw [zwI_1, if_neg (show ¬ (47 = 51 ∧ 11 = 1) by omega)]
            subst g10; rw [zwI_1, if_neg (show ¬ (47 = 51 ∧ 11 = 0) by omega)]
            subst g9; rw [zwI_1, if_neg (by omega)]
            subst g8; rw [zwI_1, if_neg (by omega)]
            subst g7; rw [zwI_1, if_pos ⟨rfl, rfl⟩]
            rfl
          have x4 : M12.1 47 4 = iI 0 := by
            subst g12; rw [zwI_1, if_neg (by omega)]
            subst g11; rw [zwI_1, if_neg (show ¬ (47 = 51 ∧ 4 = 1) by omega)]
            subst g10; rw [zwI_1, if_neg (show ¬ (47 = 51 ∧ 4 = 0) by omega)]
            subst g9; rw [zwI_1, if_neg (by omega)]
            subst g8; rw [zwI_1, if_pos ⟨rfl, rfl⟩]
            rfl
          have x7 : M12.1 47 7 = iI 0 := by
            subst g12; rw [zwI_1, if_neg (by omega)]
            subst g11; rw [zwI_1, if_neg (show ¬ (47 = 51 ∧ 7 = 1) by omega)]
            subst g10; rw [zwI_1, if_neg (show ¬ (47 = 51 ∧ 7 = 0) by omega)]
            subst g9; rw [zwI_1, if_pos ⟨rfl, rfl⟩]
            rfl
          have x12 : M12.1 47 12 = iI 0 := by subst g12; rw [zwI_1, if_pos ⟨rfl, rfl⟩]; rfl
          have x51 : M12.1 51 0 = iI 0 ∧ M12.1 51 1 = iI 0 := by
            subst g12; rw [zwI_1, if_neg (by omega), zwI_1, if_neg (by omega)]
            subst g11
            constructor
            · rw [zwI_1, if_neg (show ¬ (51 = 51 ∧ 0 = 1) by omega)]
              subst g10
              rw [zwI_1, if_pos ⟨rfl, rfl⟩]
            · rw [zwI_1, if_pos ⟨rfl, rfl⟩]
          rw [x1]
          have f12 : fz 47 62 M2 M12 := by
            subst g6; subst g7; subst g8; subst g9; subst g10; subst g11; subst g12
            exact ((((((fz_wI (by decide) (by decide)).tr (fz_wI (by decide) (by decide))).tr (fz_wI (by decide) (by decide))).tr (fz_wI (by decide) (by decide))).tr (fz_wI (by decide) (by decide))).tr (fz_wI (by decide) (by decide))).tr (fz_wI (by decide) (by decide))
          have e2R : R.2.1 = it := by rw [hE]
          rw [← e2R]
          refine hQ M12 (((f03.tr (fz_pk f1)).tr f2).tr f12) ?_
          have eP : pNew T = fun a k => nu (8 * a + k) := by unfold pNew; rw [hR, hE]
          rw [e2R, eP]
          refine ⟨⟨⟨l1, x1, fun a ha => ⟨fun k hk => (q1 (8 * a + k) (by omega)).1, fun j hj => ?_⟩⟩, Or.inl x11⟩, ⟨Nat.zero_le _, x12, fun k hk => absurd hk (Nat.not_lt_zero k)⟩, ⟨Nat.zero_le _, x4, fun k hk => absurd hk (Nat.not_lt_zero k), fun k hk => absurd hk (Nat.not_lt_zero k)⟩, fun i hi => Or.inl ⟨fun w => w, ?_⟩, ⟨Nat.zero_le _, x7, fun k hk => absurd hk (Nat.not_lt_zero k)⟩⟩
          · rw [c48, s2 _ (by omega)]
            exact (q1 (8 * a + j) (by omega)).2
          · rcases (show i = 0 ∨ i = 1 by omega) with rfl | rfl
            · exact x51.1
            · exact x51.2
        · simp (disch := omega) only [iI_m1, iI_0, iI_1, iI_2, iI_3, iI_4, iI_5, iI_6, iI_7, iI_8, iI_9, iI_10, iI_11, iI_12, iI_13, iI_16, iI_18, iI_20, iI_24, iI_31, iI_32, iI_33, iI_36, iI_48, iI_57, iI_59, iI_63, iI_64, iI_97, iI_100, iI_101, iI_130, iI_255, iI_256, iI_512, iI_1000, iI_1009, iI_2000, iI_2048, iI_32768, iI_2147483647, iI_add, iI_sub, iI_mul, iI_neg, iI_lt, iI_le, iI_eq, iI_in] at cc
          omega
      | succ r ih =>
        intro f k M2 hk hf f2 o2 s2
        obtain ⟨f, rfl⟩ : ∃ g, f = g + 1 := ⟨f - 1, by omega⟩
        show f_X8_arcs_b87 N (f_X8_arcs_l87 N Q f) (iI (k : Int)) M2 Q
        unfold f_X8_arcs_b87
        refine ⟨fun cc => ?_, fun _ => ⟨iI_in0 (by omega) (by omega) (by decide), iI_in0 (by omega) (by omega) (by decide), fun M13 g13 v e => ?_⟩⟩
        · simp (disch := omega) only [iI_m1, iI_0, iI_1, iI_2, iI_3, iI_4, iI_5, iI_6, iI_7, iI_8, iI_9, iI_10, iI_11, iI_12, iI_13, iI_16, iI_18, iI_20, iI_24, iI_31, iI_32, iI_33, iI_36, iI_48, iI_57, iI_59, iI_63, iI_64, iI_97, iI_100, iI_101, iI_130, iI_255, iI_256, iI_512, iI_1000, iI_1009, iI_2000, iI_2048, iI_32768, iI_2147483647, iI_add, iI_sub, iI_mul, iI_neg, iI_lt, iI_le, iI_eq, iI_in] at cc
          omega
        · rw [zst_iI (by omega) (by omega), toN, zrd_iI (by omega) (by omega), toN, o2 56 k (by omega)] at g13
          simp (disch := omega) only [iI_m1, iI_0, iI_1, iI_2, iI_3, iI_4, iI_5, iI_6, iI_7, iI_8, iI_9, iI_10, iI_11, iI_12, iI_13, iI_16, iI_18, iI_20, iI_24, iI_31, iI_32, iI_33, iI_36, iI_48, iI_57, iI_59, iI_63, iI_64, iI_97, iI_100, iI_101, iI_130, iI_255, iI_256, iI_512, iI_1000, iI_1009, iI_2000, iI_2048, iI_32768, iI_2147483647, iI_add, iI_sub, iI_mul, iI_neg, iI_lt, iI_le, iI_eq, iI_in] at e
          subst e
          refine ih f (k + 1) M13 (by omega) (by omega) (f2.tr (by subst g13; exact fz_wI (by decide) (by decide))) (fun c j w => ?_) (fun j hj => ?_)
          · subst g13; rw [zwI_1, if_neg (by omega)]
            exact o2 c j (by omega)
          · subst g13; rw [zwI_1]
            by_cases hjk : j = k
            · rw [if_pos ⟨rfl, hjk⟩, hjk]
            · rw [if_neg (by omega)]
              exact s2 j (by omega)
    exact lp 32 N 0 M' (by omega) (by omega) fz.rf (fun c j w => rfl) (fun j hj => absurd hj (Nat.not_lt_zero j))
  have l19 : ∀ (r f it p : Nat) (nu : Nat → Int) (M' : zMem), r + it = 5 → r ≤ f → p ≤ T.1 → fs pkS M3 M' → TK T p M' → M'.1 47 18 = iI (it : Int) → okS (it, -1, false, nu) → (∀ k, k < 8 * it → M'.1 56 k = iI (nu k)) → GP T p (it, -1, false, nu) = R → f_X8_arcs_l19 N Q f M' := by
    intro r
    induction r with
    | zero =>
      intro f it p nu M' hr hf hp f1 k1 a1 ok1 q1 g1
      have := ok1.1
      dsimp only at this
      omega
    | succ r ih =>
      intro f it p nu M' hr hf hp f1 k1 a1 ok1 q1 g1
      obtain ⟨f, rfl⟩ : ∃ g, f = g + 1 := ⟨f - 1, by omega⟩
      show f_X8_arcs_b19 N (f_X8_arcs_l19 N Q f) M' Q
      unfold f_X8_arcs_b19
      have t1 := rT_fs hT f1 (by unfold pkS; omega) (fun k => by unfold pkS; omega)
      obtain ⟨b1, k1⟩ := k1
      have i97 : (97 : Int32) = iI 97 := rfl
      have bad : ∀ y : Int, M'.1 47 16 = iI y → y ≠ -1 → y ≠ 97 → -2147483648 ≤ y → y < 2147483648 → R.1 = (p : Int) → ((M'.1 47 16 = (-1 : Int32) → f_X8_arcs_l87 N Q N (0 : Int32) M') ∧ (¬ M'.1 47 16 = (-1 : Int32) → ((¬ M'.1 47 16 = (97 : Int32) → f_X8_arcs_b47 N (f_X8_arcs_l19 N Q f) M' Q) ∧ (M'.1 47 16 = (97 : Int32) → (f_X8_readsArc N M' (fun (r19 : Int32) (M20 : zMem) => ((r19 = 0 → f_X8_arcs_b47 N (f_X8_arcs_l19 N Q f) M20 Q) ∧ (¬ r19 = 0 → f_X8_arcs_b48 N (f_X8_arcs_l19 N Q f) (1 : Int32) M20 Q)))))))) := by
        intro y y1 y2 y3 y4 y5 y6
        rw [y1, iI_m1, i97, iI_eq y4 y5 (by decide) (by decide), iI_eq y4 y5 (by decide) (by decide)]
        exact ⟨fun e => absurd e y2, fun _ => ⟨fun _ => b47 _ M' p f1 b1 hp y6, fun e => absurd e y3⟩⟩
      rcases k1 with ⟨c1, c2, c3⟩ | ⟨c1, c2, c3⟩
      · rw [c2]
        refine ⟨fun _ => ?_, fun e => absurd rfl e⟩
        have g2 := g1
        rw [c1, GP_end, ifp_t (show ((-1 : Int) = -1) from rfl)] at g2
        exact l87 it nu M' f1 a1 ok1.1 (fun k hk => ⟨ok1.2.2.2.2.2 k (by dsimp only; omega), q1 k hk⟩) g2.symm
      · have tb := (t1.2.2 p c1).1
        rcases c3 with ⟨d1, d2, d3, d4⟩ | ⟨d1, d2, d3⟩ | ⟨d1, d2, d3⟩
        · have d5 := d1.2
          refine bad _ d3 (by omega) (by omega) (by omega) (by omega) ?_
          rw [← g1]
          exact GP_no c1 c2 (nos_out rfl (fun q => q.1 d1))
        · refine bad 2000 d3 (by decide) (by decide) (by decide) (by decide) ?_
          rw [← g1]
          exact GP_no c1 c2 (nos_out rfl (fun q => q.1 d1))
        · by_cases h97 : T.2 p = 97
          · rw [d2, h97]
            refine ⟨fun e => absurd e (by decide), fun _ => ⟨fun e => absurd rfl e, fun _ => ?_⟩⟩
            by_cases hit : it < 4
            · have sA : stA (it, -1, false, nu) = some (it, 0, false, nu) := by unfold stA; exact ifp_t ⟨rfl, hit⟩
              have st : stP T p (it, -1, false, nu) = some (it, 0, false, nu) := by
                unfold stP
                rw [ifp_f d1, ifp_t h97]
                exact sA
              have g2 := GP_yes c1 c2 st
              rw [g1] at g2
              refine r_readsArc (p := p + 1) hN t1 (by omega) d3 hit a1 (okS_A ok1 sA) q1 g2.symm (fun M2 p2 f2 b2 l2 e2 => ?_) (fun M2 p2 nu2 f2 l2 n2 a2 ok2 q2 g2 => ?_)
              · exact ⟨fun _ => b47 _ M2 p2 (f1.tr f2) b2 l2 e2, fun e => absurd rfl e⟩
              · refine ⟨fun e => absurd e (by decide), fun _ => ?_⟩
                unfold f_X8_arcs_b48
                refine ⟨fun e => absurd e (by decide), fun _ => ?_⟩
                have f12 := f1.tr f2
                have t2 := rT_fs hT f12 (by unfold pkS; omega) (fun k => by unfold pkS; omega)
                refine t_X8_takes hN t2 l2 n2 (fun M4 p4 m1 m2 m3 f4 k4 => ?_)
                have f14 := f12.tr (fs_tk f4)
                have t4 := rT_fs hT f14 (by unfold pkS; omega) (fun k => by unfold pkS; omega)
                have g4 : GP T p4 (it, 8, false, nu2) = R := by rw [← g2]; exact (GP_skip (p4 - p2) p2 p4 (by omega) m2 m3).symm
                have a4 : M4.1 47 18 = iI ((it + 1 : Nat) : Int) := (f4.2 _ _ (by unfold tkS; omega)).trans a2
                have q4 : ∀ k, k < 8 * it + 8 → M4.1 56 k = iI (nu2 k) := fun k hk => (f4.2 _ _ (by unfold tkS; omega)).trans (q2 k hk)
                unfold f_X8_arcs_b57
                refine ⟨fun e => absurd e (by decide), fun _ => ?_⟩
                obtain ⟨b4, k4⟩ := k4
                have i59 : (59 : Int32) = iI 59 := rfl
                have bad2 : ∀ y : Int, M4.1 47 16 = iI y → y ≠ 59 → -2147483648 ≤ y → y < 2147483648 → R.1 = (p4 : Int) → ((M4.1 47 16 = (59 : Int32) → f_X8_takes N M4 (fun M16 => f_X8_arcs_l19 N Q f M16)) ∧ (¬ M4.1 47 16 = (59 : Int32) → f_X8_arcs_b70 N M4 Q)) := by
                  intro y y1 y2 y3 y4 y5
                  rw [y1, i59, iI_eq y3 y4 (by decide) (by decide)]
                  exact ⟨fun e => absurd e y2, fun _ => b70 M4 p4 f14 b4 m2 y5⟩
                rcases k4 with ⟨u1, u2, u3⟩ | ⟨u1, u2, u3⟩
                · refine bad2 (-1) u2 (by decide) (by decide) (by decide) ?_
                  rw [← g4, u1, GP_end, ifp_f (show ¬ ((8 : Int) = -1) by decide)]
                · have ub := (t4.2.2 p4 u1).1
                  rcases u3 with ⟨v1, v2, v3, v4⟩ | ⟨v1, v2, v3⟩ | ⟨v1, v2, v3⟩
                  · have v5 := v1.2
                    refine bad2 _ v3 (by omega) (by omega) (by omega) ?_
                    rw [← g4]
                    exact GP_no u1 u2 (nos_8 rfl (fun q => q.1 v1))
                  · refine bad2 2000 v3 (by decide) (by decide) (by decide) ?_
                    rw [← g4]
                    exact GP_no u1 u2 (nos_8 rfl (fun q => q.1 v1))
                  · by_cases h59 : T.2 p4 = 59
                    · rw [v2, h59]
                      refine ⟨fun _ => ?_, fun e => absurd rfl e⟩
                      have sE : stE (it, 8, false, nu2) = some (it + 1, -1, false, nu2) := by unfold stE; exact ifp_t rfl
                      have st2 : stP T p4 (it, 8, false, nu2) = some (it + 1, -1, false, nu2) := by
                        unfold stP
                        rw [ifp_f v1, ifp_f (by omega), ifp_f (by omega), ifp_t h59]
                        exact sE
                      have g5 := GP_yes u1 u2 st2
                      rw [g4] at g5
                      refine t_X8_takes hN t4 (show p4 + 1 ≤ T.1 by omega) v3 (fun M6 p6 w1 w2 w3 f6 k6 => ?_)
                      refine ih f (it + 1) p6 nu2 M6 (by omega) (by omega) w2 (f14.tr (fs_tk f6)) k6 ((f6.2 _ _ (by unfold tkS; omega)).trans a4) (okS_E ok2 sE) (fun k hk => (f6.2 _ _ (by unfold tkS; omega)).trans (q4 k (by omega))) ?_
                      rw [g5]
                      exact (GP_skip (p6 - (p4 + 1)) (p4 + 1) p6 (by omega) w2 w3).symm
                    · refine bad2 _ v2 h59 (by omega) (by omega) ?_
                      rw [← g4]
                      exact GP_no u1 u2 (nos_8 rfl (fun q => h59 q.2))
            · have h4 : it = 4 := by have := ok1.1; dsimp only at this; omega
              unfold f_X8_readsArc
              rw [a1, h4]
              refine ⟨fun e => absurd rfl e, fun _ => ⟨fun _ => b47 _ M' p f1 b1 hp ?_, fun e => absurd rfl e⟩⟩
              rw [← g1]
              refine GP_no c1 c2 ?_
              unfold stP
              rw [ifp_f d1, ifp_t h97]
              unfold stA
              exact ifp_f (fun q => hit q.2)
          · refine bad _ d2 (by omega) h97 (by omega) (by omega) ?_
            rw [← g1]
            exact GP_no c1 c2 (nos_out rfl (fun q => h97 q.2))
  refine t_X8_takes hN hT (Nat.zero_le _) n3 (fun M5 p5 m1 m2 m3 f5 k5 => ?_)
  refine l19 5 N 0 p5 (fun _ => 0) M5 (by omega) (by omega) m2 (fs_tk f5) k5 ((f5.2 _ _ (by unfold tkS; omega)).trans a3) ⟨by decide, by decide, by decide, fun h => absurd h (by decide), fun h => absurd h (by simp), fun k hk => absurd hk (Nat.not_lt_zero k)⟩ (fun k hk => absurd hk (Nat.not_lt_zero k)) ?_
  rw [← hR0]
  exact (GP_skip p5 0 p5 (by omega) m2 m3).symm
