/-! ===== arcs: the reference ===== -/
theorem nos_out {T : TxS} {p : Nat} {s : PS} (h : s.2.1 = -1) (h2 : ¬ (¬ isF T p ∧ T.2 p = 97)) : stP T p s = none := by
  unfold stP
  rcases Classical.em (isF T p) with w | w
  · rw [ifp_t w]; unfold stF; exact ifp_f (fun q => by have := q.1.2; omega)
  · rw [ifp_f w, ifp_f (fun q => h2 ⟨w, q⟩)]
    rcases Classical.em (T.2 p = 45) with w2 | w2
    · rw [ifp_t w2]; unfold stM; exact ifp_f (fun q => by have := q.1.2; omega)
    · rw [ifp_f w2]
      rcases Classical.em (T.2 p = 59) with w3 | w3
      · rw [ifp_t w3]; unfold stE; exact ifp_f (by omega)
      · rw [ifp_f w3]
theorem nos_8 {T : TxS} {p : Nat} {s : PS} (h : s.2.1 = 8) (h2 : ¬ (¬ isF T p ∧ T.2 p = 59)) : stP T p s = none := by
  unfold stP
  rcases Classical.em (isF T p) with w | w
  · rw [ifp_t w]; unfold stF; exact ifp_f (fun q => by have := q.1.2; omega)
  · rw [ifp_f w]
    rcases Classical.em (T.2 p = 97) with w1 | w1
    · rw [ifp_t w1]; unfold stA; exact ifp_f (fun q => by have := q.1; omega)
    · rw [ifp_f w1]
      rcases Classical.em (T.2 p = 45) with w2 | w2
      · rw [ifp_t w2]; unfold stM; exact ifp_f (fun q => by have := q.1.2; omega)
      · rw [ifp_f w2, ifp_f (fun q => h2 ⟨w, q⟩)]
theorem nos_in {T : TxS} {p : Nat} {s : PS} (h : 0 ≤ s.2.1 ∧ s.2.1 < 8) (h2 : ¬ (isF T p ∧ ¬ isF T (p + 1))) (h3 : ¬ (¬ isF T p ∧ T.2 p = 45 ∧ s.2.2.1 = false)) : stP T p s = none := by
  unfold stP
  rcases Classical.em (isF T p) with w | w
  · rw [ifp_t w]; unfold stF; exact ifp_f (fun q => h2 ⟨w, q.2⟩)
  · rw [ifp_f w]
    rcases Classical.em (T.2 p = 97) with w1 | w1
    · rw [ifp_t w1]; unfold stA; exact ifp_f (fun q => by have := q.1; omega)
    · rw [ifp_f w1]
      rcases Classical.em (T.2 p = 45) with w2 | w2
      · rw [ifp_t w2]; unfold stM; exact ifp_f (fun q => h3 ⟨w, w2, q.2⟩)
      · rw [ifp_f w2]
        rcases Classical.em (T.2 p = 59) with w3 | w3
        · rw [ifp_t w3]; unfold stE; exact ifp_f (by omega)
        · rw [ifp_f w3]
theorem fs_tk {M M' : zMem} (h : fs tkS M M') : fs pkS M M' := h.wide (fun c k w => by unfold tkS at w; unfold pkS; omega)
theorem r_readsArc {N p it : Nat} {T : TxS} {nu : Nat → Int} {R : PR} {M : zMem} {K : Int32 → zMem → Prop} (hN : 300 ≤ N) (hT : rT T M) (hp : p ≤ T.1) (hn : M.1 47 14 = iI (p : Int)) (hit : it < 4) (h18 : M.1 47 18 = iI (it : Int)) (hok : okS (it, 0, false, nu)) (h56 : ∀ k, k < 8 * it → M.1 56 k = iI (nu k)) (hG : GP T p (it, 0, false, nu) = R)
    (hK0 : ∀ (M' : zMem) (p' : Nat), fs pkS M M' → M'.1 47 15 = iI (p' : Int) → p' ≤ T.1 → R.1 = (p' : Int) → K (iI 0) M') (hK1 : ∀ (M' : zMem) (p' : Nat) (nu' : Nat → Int), fs pkS M M' → p' ≤ T.1 → M'.1 47 14 = iI (p' : Int) → M'.1 47 18 = iI ((it + 1 : Nat) : Int) → okS (it, 8, false, nu') → (∀ k, k < 8 * it + 8 → M'.1 56 k = iI (nu' k)) → GP T p' (it, 8, false, nu') = R → K (iI 1) M') : f_X8_readsArc N M K := by
  unfold f_X8_readsArc
  have hl := hT.1
  rw [h18]
  refine ⟨fun _ => ?_, fun c => ?_⟩
  · have lp : ∀ (r f i p : Nat) (nu : Nat → Int) (M' : zMem), r + i = 8 → r + 1 ≤ f → p ≤ T.1 → fs pkS M M' → M'.1 47 14 = iI (p : Int) → M'.1 47 18 = iI (it : Int) → okS (it, (i : Int), false, nu) → (∀ k, k < 8 * it + i → M'.1 56 k = iI (nu k)) → GP T p (it, (i : Int), false, nu) = R → f_X8_readsArc_l12 N K f (iI (i : Int)) M' := by
      intro r
      induction r with
      | zero =>
        intro f i p nu M' hi hf hp f1 n1 a1 ok1 q1 g1
        obtain ⟨f, rfl⟩ : ∃ g, f = g + 1 := ⟨f - 1, by omega⟩
        show f_X8_readsArc_b12 N (f_X8_readsArc_l12 N K f) (iI (i : Int)) M' K
        unfold f_X8_readsArc_b12
        obtain rfl : i = 8 := by omega
        refine ⟨fun _ M1 e1 => ?_, fun cc => absurd (by decide) cc⟩
        rw [a1, iI_1, iI_add] at e1
        refine hK1 M1 p nu (f1.tr (by subst e1; exact fs_wI (by unfold pkS; omega))) hp (by subst e1; rw [zwI_1, if_neg (by omega)]; exact n1) (by subst e1; rw [zwI_1, if_pos ⟨rfl, rfl⟩]; rfl) ok1 (fun k hk => by subst e1; rw [zwI_1, if_neg (by omega)]; exact q1 k hk) g1
      | succ r ih =>
        intro f i p nu M' hi hf hp f1 n1 a1 ok1 q1 g1
        obtain ⟨f, rfl⟩ : ∃ g, f = g + 1 := ⟨f - 1, by omega⟩
        show f_X8_readsArc_b12 N (f_X8_readsArc_l12 N K f) (iI (i : Int)) M' K
        unfold f_X8_readsArc_b12
        refine ⟨fun cc => ?_, fun _ => ?_⟩
        · simp (disch := omega) only [iI_m1, iI_0, iI_1, iI_2, iI_3, iI_4, iI_5, iI_6, iI_7, iI_8, iI_9, iI_10, iI_11, iI_12, iI_13, iI_16, iI_18, iI_20, iI_24, iI_31, iI_32, iI_33, iI_36, iI_48, iI_57, iI_59, iI_63, iI_64, iI_97, iI_100, iI_101, iI_130, iI_255, iI_256, iI_512, iI_1000, iI_1009, iI_2000, iI_2048, iI_32768, iI_2147483647, iI_add, iI_sub, iI_mul, iI_neg, iI_lt, iI_le, iI_eq, iI_in] at cc
          omega
        have t1 := rT_fs hT f1 (by unfold pkS; omega) (fun k => by unfold pkS; omega)
        have b45 : ∀ (mn : Bool) (p' : Nat) (M3 : zMem), p' ≤ T.1 → fs pkS M M3 → TK T p' M3 → M3.1 47 18 = iI (it : Int) → (∀ k, k < 8 * it + i → M3.1 56 k = iI (nu k)) → okS (it, (i : Int), mn, nu) → GP T p' (it, (i : Int), mn, nu) = R → (p' < T.1 → ¬ (¬ isF T p' ∧ T.2 p' = 45 ∧ mn = false)) → f_X8_readsArc_b45 N (f_X8_readsArc_l12 N K f) (iI (i : Int)) (iI (bI mn)) M3 K := by
          intro mn p' M3 hp' f3 k3 a3 q3 ok3 g3 no
          unfold f_X8_readsArc_b45
          obtain ⟨b3, k3⟩ := k3
          have t3 := rT_fs hT f3 (by unfold pkS; omega) (fun k => by unfold pkS; omega)
          have tok : ∃ y : Int, M3.1 47 16 = iI y ∧ -2147483648 ≤ y ∧ y < 2147483648 ∧ ((1000 ≤ y ∧ y ≤ 1009) → p' < T.1 ∧ T.2 p' ≠ 32 ∧ isF T p' ∧ ¬ isF T (p' + 1) ∧ y = 1000 + (T.2 p' - 48) ∧ M3.1 47 14 = iI ((p' + 1 : Nat) : Int)) ∧ (¬ (1000 ≤ y ∧ y ≤ 1009) → R.1 = (p' : Int)) := by
            rcases k3 with ⟨c1, c2, c3⟩ | ⟨c1, c2, c3⟩
            · refine ⟨-1, c2, by decide, by decide, fun w => by omega, fun _ => ?_⟩
              rw [← g3, c1, GP_end, ifp_f (show ¬ ((i : Int) = -1) by omega)]
            · have tb := (t3.2.2 p' c1).1
              rcases c3 with ⟨d1, d2, d3, d4⟩ | ⟨d1, d2, d3⟩ | ⟨d1, d2, d3⟩
              · have := d1.2
                exact ⟨_, d3, by omega, by omega, fun _ => ⟨c1, c2, d1, d2, rfl, d4⟩, fun w => by omega⟩
              · refine ⟨2000, d3, by decide, by decide, fun w => by omega, fun _ => ?_⟩
                rw [← g3]
                exact GP_no c1 c2 (nos_in (s := (it, (i : Int), mn, nu)) ⟨by dsimp only; omega, by dsimp only; omega⟩ (fun q => q.2 d2) (fun q => q.1 d1))
              · refine ⟨T.2 p', d2, by omega, by omega, fun w => by omega, fun _ => ?_⟩
                rw [← g3]
                exact GP_no c1 c2 (nos_in (s := (it, (i : Int), mn, nu)) ⟨by dsimp only; omega, by dsimp only; omega⟩ (fun q => d1 q.1) (no c1))
          obtain ⟨y, y1, y2, y3, y4, y5⟩ := tok
          rw [y1]
          refine t_X8_in (z := y) (lo := 1000) (hi := 1009) ⟨y2, y3⟩ (by decide) (by decide) (fun w => ?_) (fun w => ?_)
          · obtain ⟨c1, c2, d1, d2, d3, d4⟩ := y4 w
            refine ⟨fun _ => ?_, fun e => absurd e (by decide)⟩
            have st : stP T p' (it, (i : Int), mn, nu) = some (it, (i : Int) + 1, false, upN nu (8 * it + ((i : Int)).toNat) (if mn then -(T.2 p' - 48) else T.2 p' - 48)) := by
              unfold stP
              rw [ifp_t d1]
              unfold stF
              exact ifp_t ⟨⟨hit, by dsimp only; omega, by dsimp only; omega⟩, d2⟩
            have okN := okS_F ok3 d1 (show stF T p' (it, (i : Int), mn, nu) = some _ by have := st; unfold stP at this; rw [ifp_t d1] at this; exact this)
            rw [toN] at st okN
            have g4 := GP_yes c1 c2 st
            rw [g3] at g4
            have ex : (8 : Int32) * iI (it : Int) + iI (i : Int) = iI ((8 * it + i : Nat) : Int) := by rw [iI_8, iI_mul, iI_add]; congr 1 <;> omega
            have b99 : ∀ v : Int, v = (if mn then -(T.2 p' - 48) else T.2 p' - 48) → f_X8_readsArc_b99 N (f_X8_readsArc_l12 N K f) (iI (i : Int)) (iI ((8 * it + i : Nat) : Int)) (iI v) M3 K := by
              intro v hv
              unfold f_X8_readsArc_b99
              refine ⟨iI_in0 (by omega) (by omega) (by decide), fun M6 e6 v7 e7 => ?_⟩
              rw [zst_iI (by omega) (by omega), toN] at e6
              simp (disch := omega) only [iI_m1, iI_0, iI_1, iI_2, iI_3, iI_4, iI_5, iI_6, iI_7, iI_8, iI_9, iI_10, iI_11, iI_12, iI_13, iI_16, iI_18, iI_20, iI_24, iI_31, iI_32, iI_33, iI_36, iI_48, iI_57, iI_59, iI_63, iI_64, iI_97, iI_100, iI_101, iI_130, iI_255, iI_256, iI_512, iI_1000, iI_1009, iI_2000, iI_2048, iI_32768, iI_2147483647, iI_add, iI_sub, iI_mul, iI_neg, iI_lt, iI_le, iI_eq, iI_in] at e7
              subst e7
              refine ih f (i + 1) (p' + 1) _ M6 (by omega) (by omega) (by omega) (f3.tr (by subst e6; exact fs_wI (by unfold pkS; omega))) (by subst e6; rw [zwI_1, if_neg (by omega)]; exact d4) (by subst e6; rw [zwI_1, if_neg (by omega)]; exact a3) okN (fun k hk => ?_) g4.symm
              subst e6
              rw [zwI_1]
              by_cases hk2 : k = 8 * it + i
              · rw [if_pos ⟨rfl, hk2⟩, hk2, upN_1, hv]
              · rw [if_neg (by omega), upN_2 hk2]
                exact q3 k (by omega)
            rw [a3, y1, show (1000 : Int32) = iI 1000 from rfl, iI_sub, iI_sub, ex, bI_0]
            refine ⟨fun c => b99 _ ?_, fun c => b99 _ ?_⟩
            · rw [c, if_neg (by decide)]; omega
            · rw [if_pos (by cases hb : mn
                             · exact absurd hb c
                             · rfl)]; omega
          · exact ⟨fun e => absurd rfl e, fun _ => hK0 M3 p' f3 b3 hp' (y5 w)⟩
        refine t_X8_takes hN t1 hp n1 (fun M3 p' l1 l2 l3 f3 k3 => ?_)
        have f13 := f1.tr (fs_tk f3)
        have t3 := rT_fs hT f13 (by unfold pkS; omega) (fun k => by unfold pkS; omega)
        have a3 : M3.1 47 18 = iI (it : Int) := (f3.2 _ _ (by unfold tkS; omega)).trans a1
        have q3 : ∀ k, k < 8 * it + i → M3.1 56 k = iI (nu k) := fun k hk => (f3.2 _ _ (by unfold tkS; omega)).trans (q1 k hk)
        have g3 : GP T p' (it, (i : Int), false, nu) = R := by rw [← g1]; exact (GP_skip (p' - p) p p' (by omega) l2 l3).symm
        have yes : (p' < T.1 ∧ ¬ isF T p' ∧ T.2 p' = 45 ∧ M3.1 47 14 = iI ((p' + 1 : Nat) : Int)) → f_X8_readsArc_b36 N (f_X8_readsArc_l12 N K f) (iI (i : Int)) (1 : Int32) M3 K := by
          rintro ⟨c1, d1, d2, d3⟩
          unfold f_X8_readsArc_b36
          refine ⟨fun e => absurd e (by decide), fun _ => ?_⟩
          have st : stP T p' (it, (i : Int), false, nu) = some (it, (i : Int), true, nu) := by
            unfold stP
            rw [ifp_f d1, ifp_f (by omega), ifp_t d2]
            unfold stM
            exact ifp_t ⟨⟨hit, by dsimp only; omega, by dsimp only; omega⟩, rfl⟩
          have okM := okS_M ok1 (show stM (it, (i : Int), false, nu) = some (it, (i : Int), true, nu) by unfold stM; exact ifp_t ⟨⟨hit, by dsimp only; omega, by dsimp only; omega⟩, rfl⟩)
          have g4 := GP_yes c1 (by omega) st
          rw [g3] at g4
          refine t_X8_takes hN t3 (show p' + 1 ≤ T.1 by omega) d3 (fun M9 p9 m1 m2 m3 f9 k9 => ?_)
          have f19 := f13.tr (fs_tk f9)
          refine b45 true p9 M9 m2 f19 k9 ((f9.2 _ _ (by unfold tkS; omega)).trans a3) (fun k hk => (f9.2 _ _ (by unfold tkS; omega)).trans (q3 k hk)) okM ?_ (fun _ q => absurd q.2.2 (by decide))
          rw [g4]
          exact (GP_skip (p9 - (p' + 1)) (p' + 1) p9 (by omega) m2 m3).symm
        have non : (p' < T.1 → ¬ (¬ isF T p' ∧ T.2 p' = 45)) → f_X8_readsArc_b36 N (f_X8_readsArc_l12 N K f) (iI (i : Int)) (0 : Int32) M3 K := by
          intro no
          unfold f_X8_readsArc_b36
          exact ⟨fun _ => b45 false p' M3 l2 f13 k3 a3 q3 ok1 g3 (fun w q => no w ⟨q.1, q.2.1⟩), fun e => absurd rfl e⟩
        have k3c := k3.2
        have i45 : (45 : Int32) = iI 45 := rfl
        rcases k3c with ⟨c1, c2, c3⟩ | ⟨c1, c2, c3⟩
        · rw [c2, i45, iI_eq (by decide) (by decide) (by decide) (by decide)]
          exact ⟨fun _ => non (fun w => by omega), fun e => absurd e (by decide)⟩
        · have tb := (t3.2.2 p' c1).1
          rcases c3 with ⟨d1, d2, d3, d4⟩ | ⟨d1, d2, d3⟩ | ⟨d1, d2, d3⟩
          · have := d1.2
            rw [d3, i45, iI_eq (by omega) (by omega) (by decide) (by decide)]
            exact ⟨fun _ => non (fun _ q => q.1 d1), fun e => by omega⟩
          · rw [d3, i45, iI_eq (by decide) (by decide) (by decide) (by decide)]
            exact ⟨fun _ => non (fun _ q => q.1 d1), fun e => absurd e (by decide)⟩
          · rw [d2, i45, iI_eq (by omega) (by omega) (by decide) (by decide)]
            exact ⟨fun e => non (fun _ q => e q.2), fun e => yes ⟨c1, d1, e, d3⟩⟩
    exact lp 8 N 0 p nu M (by omega) (by omega) hp fs.rf hn h18 hok h56 hG
  · rw [iI_4, iI_eq (by omega) (by omega) (by decide) (by decide)] at c
    omega
