/-! ===== a text read: the component ===== -/
abbrev PS : Type := Nat × Int × Bool × (Nat → Int)
def isF (T : TxS) (p : Nat) : Prop := p < T.1 ∧ 48 ≤ T.2 p ∧ T.2 p ≤ 57
def wN (s : PS) : Prop := s.1 < 4 ∧ 0 ≤ s.2.1 ∧ s.2.1 < 8
def upN (f : Nat → Int) (a : Nat) (v : Int) : Nat → Int := fun x => if x = a then v else f x
theorem upN_1 {f : Nat → Int} {a : Nat} {v : Int} : upN f a v a = v := by unfold upN; rw [if_pos rfl]
theorem upN_2 {f : Nat → Int} {a x : Nat} {v : Int} (h : x ≠ a) : upN f a v x = f x := by unfold upN; rw [if_neg h]
noncomputable def stF (T : TxS) (p : Nat) (s : PS) : Option PS := ifp (wN s ∧ ¬ isF T (p + 1)) (some (s.1, s.2.1 + 1, false, upN s.2.2.2 (8 * s.1 + s.2.1.toNat) (if s.2.2.1 then -(T.2 p - 48) else T.2 p - 48))) none
noncomputable def stA (s : PS) : Option PS := ifp (s.2.1 = -1 ∧ s.1 < 4) (some (s.1, 0, s.2.2.1, s.2.2.2)) none
noncomputable def stM (s : PS) : Option PS := ifp (wN s ∧ s.2.2.1 = false) (some (s.1, s.2.1, true, s.2.2.2)) none
noncomputable def stE (s : PS) : Option PS := ifp (s.2.1 = 8) (some (s.1 + 1, -1, s.2.2.1, s.2.2.2)) none
noncomputable def stP (T : TxS) (p : Nat) (s : PS) : Option PS := ifp (isF T p) (stF T p s) (ifp (T.2 p = 97) (stA s) (ifp (T.2 p = 45) (stM s) (ifp (T.2 p = 59) (stE s) none)))
abbrev PR : Type := Int × Nat × (Nat → Int)
noncomputable def FP (T : TxS) : Nat → Nat → PS → PR
  | 0, _, s => (ifp (s.2.1 = -1) (-1) (T.1 : Int), s.1, s.2.2.2)
  | r + 1, p, s => ifp (T.2 p = 32) (FP T r (p + 1) s) (match stP T p s with
    | none => ((p : Int), s.1, s.2.2.2)
    | some s' => FP T r (p + 1) s')
/-- what always holds of a state while a text is read -/
def okS (s : PS) : Prop := s.1 ≤ 4 ∧ -1 ≤ s.2.1 ∧ s.2.1 ≤ 8 ∧ (0 ≤ s.2.1 → s.1 < 4) ∧ (s.2.2.1 = true → 0 ≤ s.2.1 ∧ s.2.1 < 8) ∧ ∀ k, k < 8 * s.1 + s.2.1.toNat → -9 ≤ s.2.2.2 k ∧ s.2.2.2 k ≤ 9
theorem okS_F {T : TxS} {p : Nat} {s s' : PS} (h : okS s) (hp : isF T p) (e : stF T p s = some s') : okS s' := by
  unfold stF at e
  obtain ⟨h1, h2, h3, h4, h5, h6⟩ := h
  have hF := hp.2
  rcases Classical.em (wN s ∧ ¬ isF T (p + 1)) with w | w
  · rw [ifp_t w] at e
    cases e
    obtain ⟨w1, w2, w3⟩ := w.1
    refine ⟨by dsimp only; omega, by dsimp only; omega, by dsimp only; omega, fun _ => by dsimp only; omega, fun q => absurd q (by simp), fun k hk => ?_⟩
    dsimp only at hk ⊢
    by_cases hk2 : k = 8 * s.1 + s.2.1.toNat
    · rw [hk2, upN_1]
      split
      · omega
      · omega
    · rw [upN_2 hk2]
      exact h6 k (by omega)
  · rw [ifp_f w] at e
    exact absurd e (by simp)
theorem okS_A {s s' : PS} (h : okS s) (e : stA s = some s') : okS s' := by
  unfold stA at e
  obtain ⟨h1, h2, h3, h4, h5, h6⟩ := h
  rcases Classical.em (s.2.1 = -1 ∧ s.1 < 4) with w | w
  · rw [ifp_t w] at e
    cases e
    refine ⟨by dsimp only; omega, by dsimp only; omega, by dsimp only; omega, fun _ => by dsimp only; omega, fun q => by dsimp only; omega, fun k hk => ?_⟩
    dsimp only at hk ⊢
    exact h6 k (by omega)
  · rw [ifp_f w] at e
    exact absurd e (by simp)
theorem okS_M {s s' : PS} (h : okS s) (e : stM s = some s') : okS s' := by
  unfold stM at e
  obtain ⟨h1, h2, h3, h4, h5, h6⟩ := h
  rcases Classical.em (wN s ∧ s.2.2.1 = false) with w | w
  · rw [ifp_t w] at e
    cases e
    exact ⟨h1, h2, h3, h4, fun _ => ⟨w.1.2.1, w.1.2.2⟩, h6⟩
  · rw [ifp_f w] at e
    exact absurd e (by simp)
theorem okS_E {s s' : PS} (h : okS s) (e : stE s = some s') : okS s' := by
  unfold stE at e
  obtain ⟨h1, h2, h3, h4, h5, h6⟩ := h
  rcases Classical.em (s.2.1 = 8) with w | w
  · rw [ifp_t w] at e
    cases e
    refine ⟨by dsimp only; omega, by dsimp only; omega, by dsimp only; omega, fun q => by dsimp only at q; omega, fun q => ?_, fun k hk => ?_⟩
    · have := h5 q
      omega
    · dsimp only at hk ⊢
      exact h6 k (by omega)
  · rw [ifp_f w] at e
    exact absurd e (by simp)
/-- the component's reader in state s -/
def rdC (s : PS) (M : zMem) : Prop := okS s ∧ M.1 1 3 = iI (s.1 : Int) ∧ M.1 1 4 = iI s.2.1 ∧ M.1 1 5 = iI (bI s.2.2.1) ∧ ∀ k, k < 8 * s.1 + s.2.1.toNat → M.1 3 k = iI (s.2.2.2 k)
def fR (M M' : zMem) : Prop := fz 1 3 M M' ∧ M'.1 2 = M.1 2 ∧ M'.1 1 1 = M.1 1 1
theorem fR.rf {M : zMem} : fR M M := ⟨fz.rf, rfl, rfl⟩
theorem fR.tr {M M1 M2 : zMem} (h1 : fR M M1) (h2 : fR M1 M2) : fR M M2 := ⟨h1.1.tr h2.1, h2.2.1.trans h1.2.1, h2.2.2.trans h1.2.2⟩
theorem cT_fR {T : TxS} {M M' : zMem} (h : cT T M) (hf : fR M M') : cT T M' := by
  unfold cT at h ⊢
  rw [hf.2.1, hf.2.2]
  exact h
theorem t_X5_isFigure {N p : Nat} {T : TxS} {M : zMem} {Q : Int32 → zMem → Prop} (hT : cT T M) (hp : p ≤ 131) (hQ1 : isF T p → Q (iI 1) M) (hQ0 : ¬ isF T p → Q (iI 0) M) : f_X5_isFigure N (iI (p : Int)) M Q := by
  unfold f_X5_isFigure
  have hl := hT.1
  rw [hT.2.1]
  refine ⟨fun c => ?_, fun c => ?_⟩
  · simp (disch := omega) only [iI_m1, iI_0, iI_1, iI_2, iI_3, iI_4, iI_5, iI_6, iI_7, iI_8, iI_9, iI_10, iI_11, iI_12, iI_13, iI_16, iI_18, iI_20, iI_24, iI_31, iI_32, iI_33, iI_36, iI_48, iI_57, iI_59, iI_63, iI_64, iI_97, iI_100, iI_101, iI_130, iI_255, iI_256, iI_512, iI_1000, iI_1009, iI_2000, iI_2048, iI_32768, iI_2147483647, iI_add, iI_sub, iI_mul, iI_neg, iI_lt, iI_le, iI_eq, iI_in] at c
    exact hQ0 (fun w => by have := w.1; omega)
  · simp (disch := omega) only [iI_m1, iI_0, iI_1, iI_2, iI_3, iI_4, iI_5, iI_6, iI_7, iI_8, iI_9, iI_10, iI_11, iI_12, iI_13, iI_16, iI_18, iI_20, iI_24, iI_31, iI_32, iI_33, iI_36, iI_48, iI_57, iI_59, iI_63, iI_64, iI_97, iI_100, iI_101, iI_130, iI_255, iI_256, iI_512, iI_1000, iI_1009, iI_2000, iI_2048, iI_32768, iI_2147483647, iI_add, iI_sub, iI_mul, iI_neg, iI_lt, iI_le, iI_eq, iI_in] at c
    have hv : vp_in (iI (p : Int)) 130 := iI_in0 (by omega) (by omega) (by decide)
    obtain ⟨t1, t2⟩ := hT.2.2 p (by omega)
    rw [zrd_iI (by omega) (by omega), toN, t2]
    refine ⟨hv, fun c2 => ?_, fun c2 => ⟨hv, fun c3 => ?_, fun c3 => ?_⟩⟩
    · simp (disch := omega) only [iI_m1, iI_0, iI_1, iI_2, iI_3, iI_4, iI_5, iI_6, iI_7, iI_8, iI_9, iI_10, iI_11, iI_12, iI_13, iI_16, iI_18, iI_20, iI_24, iI_31, iI_32, iI_33, iI_36, iI_48, iI_57, iI_59, iI_63, iI_64, iI_97, iI_100, iI_101, iI_130, iI_255, iI_256, iI_512, iI_1000, iI_1009, iI_2000, iI_2048, iI_32768, iI_2147483647, iI_add, iI_sub, iI_mul, iI_neg, iI_lt, iI_le, iI_eq, iI_in] at c2
      exact hQ0 (fun w => by have := w.2; omega)
    · simp (disch := omega) only [iI_m1, iI_0, iI_1, iI_2, iI_3, iI_4, iI_5, iI_6, iI_7, iI_8, iI_9, iI_10, iI_11, iI_12, iI_13, iI_16, iI_18, iI_20, iI_24, iI_31, iI_32, iI_33, iI_36, iI_48, iI_57, iI_59, iI_63, iI_64, iI_97, iI_100, iI_101, iI_130, iI_255, iI_256, iI_512, iI_1000, iI_1009, iI_2000, iI_2048, iI_32768, iI_2147483647, iI_add, iI_sub, iI_mul, iI_neg, iI_lt, iI_le, iI_eq, iI_in] at c3
      exact hQ0 (fun w => by have := w.2; omega)
    · simp (disch := omega) only [iI_m1, iI_0, iI_1, iI_2, iI_3, iI_4, iI_5, iI_6, iI_7, iI_8, iI_9, iI_10, iI_11, iI_12, iI_13, iI_16, iI_18, iI_20, iI_24, iI_31, iI_32, iI_33, iI_36, iI_48, iI_57, iI_59, iI_63, iI_64, iI_97, iI_100, iI_101, iI_130, iI_255, iI_256, iI_512, iI_1000, iI_1009, iI_2000, iI_2048, iI_32768, iI_2147483647, iI_add, iI_sub, iI_mul, iI_neg, iI_lt, iI_le, iI_eq, iI_in] at c2 c3
      exact hQ1 ⟨by omega, by omega, by omega⟩
theorem t_X5_wantsNumber {N : Nat} {s : PS} {M : zMem} {Q : Int32 → zMem → Prop} (hR : rdC s M) (hQ1 : wN s → Q (iI 1) M) (hQ0 : ¬ wN s → Q (iI 0) M) : f_X5_wantsNumber N M Q := by
  unfold f_X5_wantsNumber
  obtain ⟨⟨h1, h2, h3, h4, h5, h6⟩, g1, g2, g3, g4⟩ := hR
  rw [g1, g2]
  refine ⟨fun c => ?_, fun c => ⟨fun c2 => ?_, fun c2 => ⟨fun c3 => ?_, fun c3 => ?_⟩⟩⟩
  · simp (disch := omega) only [iI_m1, iI_0, iI_1, iI_2, iI_3, iI_4, iI_5, iI_6, iI_7, iI_8, iI_9, iI_10, iI_11, iI_12, iI_13, iI_16, iI_18, iI_20, iI_24, iI_31, iI_32, iI_33, iI_36, iI_48, iI_57, iI_59, iI_63, iI_64, iI_97, iI_100, iI_101, iI_130, iI_255, iI_256, iI_512, iI_1000, iI_1009, iI_2000, iI_2048, iI_32768, iI_2147483647, iI_add, iI_sub, iI_mul, iI_neg, iI_lt, iI_le, iI_eq, iI_in] at c
    exact hQ0 (fun w => by have := w.1; omega)
  · simp (disch := omega) only [iI_m1, iI_0, iI_1, iI_2, iI_3, iI_4, iI_5, iI_6, iI_7, iI_8, iI_9, iI_10, iI_11, iI_12, iI_13, iI_16, iI_18, iI_20, iI_24, iI_31, iI_32, iI_33, iI_36, iI_48, iI_57, iI_59, iI_63, iI_64, iI_97, iI_100, iI_101, iI_130, iI_255, iI_256, iI_512, iI_1000, iI_1009, iI_2000, iI_2048, iI_32768, iI_2147483647, iI_add, iI_sub, iI_mul, iI_neg, iI_lt, iI_le, iI_eq, iI_in] at c2
    exact hQ0 (fun w => by have := w.2; omega)
  · simp (disch := omega) only [iI_m1, iI_0, iI_1, iI_2, iI_3, iI_4, iI_5, iI_6, iI_7, iI_8, iI_9, iI_10, iI_11, iI_12, iI_13, iI_16, iI_18, iI_20, iI_24, iI_31, iI_32, iI_33, iI_36, iI_48, iI_57, iI_59, iI_63, iI_64, iI_97, iI_100, iI_101, iI_130, iI_255, iI_256, iI_512, iI_1000, iI_1009, iI_2000, iI_2048, iI_32768, iI_2147483647, iI_add, iI_sub, iI_mul, iI_neg, iI_lt, iI_le, iI_eq, iI_in] at c3
    exact hQ0 (fun w => by have := w.2; omega)
  · simp (disch := omega) only [iI_m1, iI_0, iI_1, iI_2, iI_3, iI_4, iI_5, iI_6, iI_7, iI_8, iI_9, iI_10, iI_11, iI_12, iI_13, iI_16, iI_18, iI_20, iI_24, iI_31, iI_32, iI_33, iI_36, iI_48, iI_57, iI_59, iI_63, iI_64, iI_97, iI_100, iI_101, iI_130, iI_255, iI_256, iI_512, iI_1000, iI_1009, iI_2000, iI_2048, iI_32768, iI_2147483647, iI_add, iI_sub, iI_mul, iI_neg, iI_lt, iI_le, iI_eq, iI_in] at c c2 c3
    exact hQ1 ⟨by omega, by omega, by omega⟩
/-- one letter that is no space -/
theorem t_X5_takesToken {N p : Nat} {T : TxS} {s : PS} {M : zMem} {Q : Int32 → zMem → Prop} (hT : cT T M) (hp : p < T.1) (hR : rdC s M) (hQ0 : stP T p s = none → Q (iI 0) M) (hQ1 : ∀ s' M', stP T p s = some s' → fR M M' → rdC s' M' → Q (iI 1) M') : f_X5_takesToken N (iI (p : Int)) M Q := by
  unfold f_X5_takesToken
  have hl := hT.1
  have hRc := hR
  obtain ⟨hok, g1, g2, g3, g4⟩ := hRc
  have hoc := hok
  obtain ⟨h1, h2, h3, h4, h5, h6⟩ := hoc
  obtain ⟨t1, t2⟩ := hT.2.2 p hp
  have rp : zrd M 2 (iI (p : Int)) = iI (T.2 p) := by rw [zrd_iI (by omega) (by omega), toN]; exact t2
  have vp : vp_in (iI (p : Int)) 130 := iI_in0 (by omega) (by omega) (by decide)
  unfold stP at hQ0 hQ1
  refine t_X5_isFigure hT (by omega) (fun hF => ?_) (fun hF => ?_)
  · rw [ifp_t hF] at hQ0 hQ1
    refine ⟨fun e => absurd e (by decide), fun _ => ?_⟩
    unfold f_X5_takesNumber
    have non : ¬ (wN s ∧ ¬ isF T (p + 1)) → Q (iI 0) M := fun w => hQ0 (by unfold stF; exact ifp_f w)
    refine t_X5_wantsNumber hR (fun w => ?_) (fun w => ?_)
    · refine ⟨fun e => absurd e (by decide), fun _ => ?_⟩
      rw [show iI (p : Int) + 1 = iI ((p + 1 : Nat) : Int) by rw [iI_1, iI_add]; rfl]
      refine t_X5_isFigure hT (by omega) (fun w2 => ?_) (fun w2 => ?_)
      · exact ⟨fun e => absurd e (by decide), fun _ => ⟨zb_0, non (fun q => q.2 w2)⟩⟩
      · refine ⟨fun _ => ⟨vp, fun v5 e5 => ?_⟩, fun e => absurd rfl e⟩
        rw [rp, show (48 : Int32) = iI 48 from rfl, iI_sub] at e5
        subst e5
        obtain ⟨w1, w3, w4⟩ := w
        have ex : iI (s.1 : Int) * (8 : Int32) + iI s.2.1 = iI ((8 * s.1 + s.2.1.toNat : Nat) : Int) := by rw [iI_8, iI_mul, iI_add]; congr 1 <;> omega
        have st : stF T p s = some (s.1, s.2.1 + 1, false, upN s.2.2.2 (8 * s.1 + s.2.1.toNat) (if s.2.2.1 then -(T.2 p - 48) else T.2 p - 48)) := by unfold stF; exact ifp_t ⟨⟨w1, w3, w4⟩, w2⟩
        have b58 : ∀ y : Int, y = (if s.2.2.1 then -(T.2 p - 48) else T.2 p - 48) → f_X5_takesNumber_b58 N (iI ((8 * s.1 + s.2.1.toNat : Nat) : Int)) (iI y) M (fun (r9 : Int32) (M10 : zMem) => zb r9 ∧ Q r9 M10) := by
          intro y hy
          unfold f_X5_takesNumber_b58
          refine ⟨iI_in0 (by omega) (by omega) (by decide), fun M6 e6 M7 e7 M8 e8 => ⟨zb_1, ?_⟩⟩
          rw [zst_iI (by omega) (by omega), toN] at e6
          have q6 : M6.1 1 4 = iI s.2.1 := by subst e6; rw [zwI_1, if_neg (by omega)]; exact g2
          rw [q6, iI_1, iI_add] at e7
          refine hQ1 _ M8 st ⟨?_, ?_, ?_⟩ ⟨okS_F hok hF st, ?_, ?_, ?_, fun k hk => ?_⟩
          · subst e6; subst e7; subst e8
            exact ((fz_wI (by decide) (by decide)).tr (fz_wI (by decide) (by decide))).tr (fz_wI (by decide) (by decide))
          · subst e6; subst e7; subst e8
            funext k
            rw [zwI_1, if_neg (by omega), zwI_1, if_neg (by omega), zwI_1, if_neg (by omega)]
          · subst e6; subst e7; subst e8
            rw [zwI_1, if_neg (by omega), zwI_1, if_neg (by omega), zwI_1, if_neg (by omega)]
          · subst e6; subst e7; subst e8
            rw [zwI_1, if_neg (by omega), zwI_1, if_neg (by omega), zwI_1, if_neg (by omega)]
            exact g1
          · subst e8; rw [zwI_1, if_neg (by omega)]
            subst e7; rw [zwI_1, if_pos ⟨rfl, rfl⟩]
          · subst e8; rw [zwI_1, if_pos ⟨rfl, rfl⟩]
            rfl
          · dsimp only at hk ⊢
            subst e8; rw [zwI_1, if_neg (by omega)]
            subst e7; rw [zwI_1, if_neg (by omega)]
            subst e6; rw [zwI_1]
            by_cases hk2 : k = 8 * s.1 + s.2.1.toNat
            · rw [if_pos ⟨rfl, hk2⟩, hk2, upN_1, hy]
            · rw [if_neg (by omega), upN_2 hk2]
              exact g4 k (by omega)
        rw [g1, g2, g3, ex, iI_neg, bI_0]
        refine ⟨fun c => b58 _ ?_, fun c => b58 _ ?_⟩
        · rw [c, if_neg (by decide)]
        · rw [if_pos (by cases hb : s.2.2.1
                         · exact absurd hb c
                         · rfl)]
    · exact ⟨fun _ => ⟨zb_0, non (fun q => w q.1)⟩, fun e => absurd rfl e⟩
  · rw [ifp_f hF] at hQ0 hQ1
    refine ⟨fun _ => ⟨vp, ?_⟩, fun e => absurd rfl e⟩
    rw [rp]
    have i45 : (45 : Int32) = iI 45 := rfl
    have i59 : (59 : Int32) = iI 59 := rfl
    have i97 : (97 : Int32) = iI 97 := rfl
    rw [i45, i59, i97, iI_eq (by omega) (by omega) (by decide) (by decide), iI_eq (by omega) (by omega) (by decide) (by decide), iI_eq (by omega) (by omega) (by decide) (by decide)]
    refine ⟨fun c => ?_, fun c => ?_, fun c => ?_, fun c c2 c3 => ?_⟩
    · rw [ifp_f (by omega), ifp_t c] at hQ0 hQ1
      unfold f_X5_takesMinus
      refine t_X5_wantsNumber hR (fun w => ?_) (fun w => ?_)
      · refine ⟨fun e => absurd e (by decide), fun _ => ?_⟩
        rw [g3, bI_0]
        refine ⟨fun c4 M3 e3 => ⟨zb_1, ?_⟩, fun c4 => ⟨zb_0, hQ0 (by unfold stM; exact ifp_f (fun q => c4 q.2))⟩⟩
        have st : stM s = some (s.1, s.2.1, true, s.2.2.2) := by unfold stM; exact ifp_t ⟨w, c4⟩
        refine hQ1 _ M3 st ⟨by subst e3; exact fz_wI (by decide) (by decide), by subst e3; funext k; rw [zwI_1, if_neg (by omega)], by subst e3; rw [zwI_1, if_neg (by omega)]⟩ ⟨okS_M hok st, by subst e3; rw [zwI_1, if_neg (by omega)]; exact g1, by subst e3; rw [zwI_1, if_neg (by omega)]; exact g2, by subst e3; rw [zwI_1, if_pos ⟨rfl, rfl⟩]; rfl, fun k hk => by subst e3; rw [zwI_1, if_neg (by omega)]; exact g4 k hk⟩
      · exact ⟨fun _ => ⟨zb_0, hQ0 (by unfold stM; exact ifp_f (fun q => w q.1))⟩, fun e => absurd rfl e⟩
    · rw [ifp_f (by omega), ifp_f (by omega), ifp_t c] at hQ0 hQ1
      unfold f_X5_endsItem
      rw [g2, iI_8, iI_eq (by omega) (by omega) (by decide) (by decide)]
      refine ⟨fun c4 M1 e1 M2 e2 => ⟨zb_1, ?_⟩, fun c4 => ⟨zb_0, hQ0 (by unfold stE; exact ifp_f c4)⟩⟩
      rw [g1, iI_1, iI_add] at e1
      have st : stE s = some (s.1 + 1, -1, s.2.2.1, s.2.2.2) := by unfold stE; exact ifp_t c4
      refine hQ1 _ M2 st ⟨?_, ?_, ?_⟩ ⟨okS_E hok st, ?_, ?_, ?_, fun k hk => ?_⟩
      · subst e1; subst e2
        exact (fz_wI (by decide) (by decide)).tr (fz_wI (by decide) (by decide))
      · subst e1; subst e2
        funext k
        rw [zwI_1, if_neg (by omega), zwI_1, if_neg (by omega)]
      · subst e1; subst e2
        rw [zwI_1, if_neg (by omega), zwI_1, if_neg (by omega)]
      · subst e1; subst e2
        rw [zwI_1, if_neg (by omega), zwI_1, if_pos ⟨rfl, rfl⟩]
        rfl
      · subst e1; subst e2
        rw [zwI_1, if_pos ⟨rfl, rfl⟩]
        rfl
      · subst e1; subst e2
        rw [zwI_1, if_neg (by omega), zwI_1, if_neg (by omega)]
        exact g3
      · dsimp only at hk
        subst e1; subst e2
        rw [zwI_1, if_neg (by omega), zwI_1, if_neg (by omega)]
        exact g4 k (by omega)
    · rw [ifp_t c] at hQ0 hQ1
      unfold f_X5_opensItem
      rw [g1, g2, iI_m1, iI_eq (by omega) (by omega) (by decide) (by decide)]
      refine ⟨fun c4 => ⟨zb_0, hQ0 (by unfold stA; exact ifp_f (fun q => c4 q.1))⟩, fun c4 => ⟨fun c5 M1 e1 => ⟨zb_1, ?_⟩, fun c5 => ⟨zb_0, ?_⟩⟩⟩
      · simp (disch := omega) only [iI_m1, iI_0, iI_1, iI_2, iI_3, iI_4, iI_5, iI_6, iI_7, iI_8, iI_9, iI_10, iI_11, iI_12, iI_13, iI_16, iI_18, iI_20, iI_24, iI_31, iI_32, iI_33, iI_36, iI_48, iI_57, iI_59, iI_63, iI_64, iI_97, iI_100, iI_101, iI_130, iI_255, iI_256, iI_512, iI_1000, iI_1009, iI_2000, iI_2048, iI_32768, iI_2147483647, iI_add, iI_sub, iI_mul, iI_neg, iI_lt, iI_le, iI_eq, iI_in] at c5
        have st : stA s = some (s.1, 0, s.2.2.1, s.2.2.2) := by unfold stA; exact ifp_t ⟨c4, by omega⟩
        refine hQ1 _ M1 st ⟨by subst e1; exact fz_wI (by decide) (by decide), by subst e1; funext k; rw [zwI_1, if_neg (by omega)], by subst e1; rw [zwI_1, if_neg (by omega)]⟩ ⟨okS_A hok st, by subst e1; rw [zwI_1, if_neg (by omega)]; exact g1, by subst e1; rw [zwI_1, if_pos ⟨rfl, rfl⟩]; rfl, by subst e1; rw [zwI_1, if_neg (by omega)]; exact g3, fun k hk => ?_⟩
        dsimp only at hk
        subst e1; rw [zwI_1, if_neg (by omega)]; exact g4 k (by omega)
      · simp (disch := omega) only [iI_m1, iI_0, iI_1, iI_2, iI_3, iI_4, iI_5, iI_6, iI_7, iI_8, iI_9, iI_10, iI_11, iI_12, iI_13, iI_16, iI_18, iI_20, iI_24, iI_31, iI_32, iI_33, iI_36, iI_48, iI_57, iI_59, iI_63, iI_64, iI_97, iI_100, iI_101, iI_130, iI_255, iI_256, iI_512, iI_1000, iI_1009, iI_2000, iI_2048, iI_32768, iI_2147483647, iI_add, iI_sub, iI_mul, iI_neg, iI_lt, iI_le, iI_eq, iI_in] at c5
        exact hQ0 (by unfold stA; exact ifp_f (fun q => by have := q.2; omega))
    · rw [ifp_f c3, ifp_f c, ifp_f c2] at hQ0
      exact hQ0 rfl
theorem c_findFault {N : Nat} {T : TxS} {M : zMem} {Q : Int32 → zMem → Prop} (hN : 200 ≤ N) (hT : cT T M) (hQ : ∀ M', fR M M' → (((FP T T.1 0 (0, -1, false, fun _ => 0)).1 = -1 → (FP T T.1 0 (0, -1, false, fun _ => 0)).2.1 ≤ 4 ∧ M'.1 1 3 = iI ((FP T T.1 0 (0, -1, false, fun _ => 0)).2.1 : Int) ∧ ∀ k, k < 8 * (FP T T.1 0 (0, -1, false, fun _ => 0)).2.1 → (-9 ≤ (FP T T.1 0 (0, -1, false, fun _ => 0)).2.2 k ∧ (FP T T.1 0 (0, -1, false, fun _ => 0)).2.2 k ≤ 9) ∧ M'.1 3 k = iI ((FP T T.1 0 (0, -1, false, fun _ => 0)).2.2 k))) → (-1 ≤ (FP T T.1 0 (0, -1, false, fun _ => 0)).1 ∧ (FP T T.1 0 (0, -1, false, fun _ => 0)).1 ≤ 130) → Q (iI (FP T T.1 0 (0, -1, false, fun _ => 0)).1) M') : f_X5_findFault N M Q := by
  unfold f_X5_findFault
  intro M1 e1 M2 e2 M3 e3
  have hl := hT.1
  generalize hR : FP T T.1 0 (0, -1, false, fun _ => 0) = R at hQ
  have f3 : fR M M3 := by
    subst e1; subst e2; subst e3
    exact ⟨((fz_wI (by decide) (by decide)).tr (fz_wI (by decide) (by decide))).tr (fz_wI (by decide) (by decide)), by funext k; rw [zwI_1, if_neg (by omega), zwI_1, if_neg (by omega), zwI_1, if_neg (by omega)], by rw [zwI_1, if_neg (by omega), zwI_1, if_neg (by omega), zwI_1, if_neg (by omega)]⟩
  have r3 : rdC (0, -1, false, fun _ => 0) M3 := by
    refine ⟨⟨by decide, by decide, by decide, fun h => absurd h (by decide), fun h => absurd h (by simp), fun k hk => absurd hk (Nat.not_lt_zero k)⟩, ?_, ?_, ?_, fun k hk => absurd hk (Nat.not_lt_zero k)⟩
    · subst e1; subst e2; subst e3
      rw [zwI_1, if_neg (by omega), zwI_1, if_neg (by omega), zwI_1, if_pos ⟨rfl, rfl⟩]; rfl
    · subst e2; subst e3
      rw [zwI_1, if_neg (by omega), zwI_1, if_pos ⟨rfl, rfl⟩]; rfl
    · subst e3
      rw [zwI_1, if_pos ⟨rfl, rfl⟩]; rfl
  have lp : ∀ (r f p : Nat) (s : PS) (M' : zMem), r + p = T.1 → r + 1 ≤ f → fR M M' → rdC s M' → FP T r p s = R → f_X5_findFault_l17 N Q f (iI (p : Int)) M' := by
    intro r
    induction r with
    | zero =>
      intro f p s M' hp hf fM hs hE
      obtain ⟨f, rfl⟩ : ∃ g, f = g + 1 := ⟨f - 1, by omega⟩
      show f_X5_findFault_b17 N (f_X5_findFault_l17 N Q f) (iI (p : Int)) M' Q
      unfold f_X5_findFault_b17
      have tM := cT_fR hT fM
      rw [tM.2.1]
      obtain ⟨⟨h1, h2, h3, h4, h5, h6⟩, g1, g2, g3, g4⟩ := hs
      have eR : R = (ifp (s.2.1 = -1) (-1) (T.1 : Int), s.1, s.2.2.2) := hE.symm
      rw [g2, iI_m1, iI_eq (by omega) (by omega) (by decide) (by decide)]
      refine ⟨fun _ => ⟨fun c => ?_, fun c => ?_⟩, fun cc => ?_⟩
      · rw [ifp_f c] at eR
        subst eR
        exact hQ M' fM (fun q => by dsimp only at q; omega) ⟨by dsimp only; omega, by dsimp only; omega⟩
      · rw [ifp_t c] at eR
        subst eR
        exact hQ M' fM (fun _ => ⟨h1, g1, fun k hk => ⟨h6 k (by dsimp only at hk; omega), g4 k (by dsimp only at hk; omega)⟩⟩) ⟨by dsimp only; omega, by dsimp only; omega⟩
      · simp (disch := omega) only [iI_m1, iI_0, iI_1, iI_2, iI_3, iI_4, iI_5, iI_6, iI_7, iI_8, iI_9, iI_10, iI_11, iI_12, iI_13, iI_16, iI_18, iI_20, iI_24, iI_31, iI_32, iI_33, iI_36, iI_48, iI_57, iI_59, iI_63, iI_64, iI_97, iI_100, iI_101, iI_130, iI_255, iI_256, iI_512, iI_1000, iI_1009, iI_2000, iI_2048, iI_32768, iI_2147483647, iI_add, iI_sub, iI_mul, iI_neg, iI_lt, iI_le, iI_eq, iI_in] at cc
        omega
    | succ r ih =>
      intro f p s M' hp hf fM hs hE
      obtain ⟨f, rfl⟩ : ∃ g, f = g + 1 := ⟨f - 1, by omega⟩
      show f_X5_findFault_b17 N (f_X5_findFault_l17 N Q f) (iI (p : Int)) M' Q
      unfold f_X5_findFault_b17
      have tM := cT_fR hT fM
      have tp := tM.2.2 p (by omega)
      rw [tM.2.1]
      rw [show FP T (r + 1) p s = ifp (T.2 p = 32) (FP T r (p + 1) s) (match stP T p s with
        | none => ((p : Int), s.1, s.2.2.2)
        | some s' => FP T r (p + 1) s') from rfl] at hE
      have go : ∀ s' M2, fR M M2 → rdC s' M2 → FP T r (p + 1) s' = R → f_X5_findFault_b46 N (f_X5_findFault_l17 N Q f) (iI (p : Int)) M2 Q := by
        intro s' M2 q1 q2 q3
        unfold f_X5_findFault_b46
        intro v e
        simp (disch := omega) only [iI_m1, iI_0, iI_1, iI_2, iI_3, iI_4, iI_5, iI_6, iI_7, iI_8, iI_9, iI_10, iI_11, iI_12, iI_13, iI_16, iI_18, iI_20, iI_24, iI_31, iI_32, iI_33, iI_36, iI_48, iI_57, iI_59, iI_63, iI_64, iI_97, iI_100, iI_101, iI_130, iI_255, iI_256, iI_512, iI_1000, iI_1009, iI_2000, iI_2048, iI_32768, iI_2147483647, iI_add, iI_sub, iI_mul, iI_neg, iI_lt, iI_le, iI_eq, iI_in] at e
        subst e
        exact ih f (p + 1) s' M2 (by omega) (by omega) q1 q2 q3
      refine ⟨fun cc => ?_, fun _ => ⟨iI_in0 (by omega) (by omega) (by decide), ?_⟩⟩
      · simp (disch := omega) only [iI_m1, iI_0, iI_1, iI_2, iI_3, iI_4, iI_5, iI_6, iI_7, iI_8, iI_9, iI_10, iI_11, iI_12, iI_13, iI_16, iI_18, iI_20, iI_24, iI_31, iI_32, iI_33, iI_36, iI_48, iI_57, iI_59, iI_63, iI_64, iI_97, iI_100, iI_101, iI_130, iI_255, iI_256, iI_512, iI_1000, iI_1009, iI_2000, iI_2048, iI_32768, iI_2147483647, iI_add, iI_sub, iI_mul, iI_neg, iI_lt, iI_le, iI_eq, iI_in] at cc
        omega
      · have z32 : zrd M' 2 (iI (p : Int)) = iI (T.2 p) := by rw [zrd_iI (by omega) (by omega), toN]; exact tp.2
        rw [z32, iI_32, iI_eq (by omega) (by omega) (by decide) (by decide)]
        refine ⟨fun c => ?_, fun c => ?_⟩
        · rw [ifp_t c] at hE
          exact go s M' fM hs hE
        · rw [ifp_f c] at hE
          refine t_X5_takesToken tM (by omega) hs (fun w => ?_) (fun s' M2 w fM2 hs2 => ?_)
          · rw [w] at hE
            dsimp only at hE
            subst hE
            refine ⟨fun e => absurd rfl e, fun _ => hQ M' fM (fun q => by dsimp only at q; omega) ⟨by dsimp only; omega, by dsimp only; omega⟩⟩
          · rw [w] at hE
            dsimp only at hE
            exact ⟨fun _ => go s' M2 (fM.tr fM2) hs2 hE, fun e => absurd e (by decide)⟩
  exact lp T.1 N 0 _ M3 (by omega) (by omega) f3 r3 hR
