/-! ===== the component finds the meetings of two arcs ===== -/
def Sk (l : List Ev) (k : Nat) : Nat → Prop := fun a => a < l.length ∧ fc l (rep l a) = k
theorem fc_inj {l : List Ev} {a b : Nat} (ha : fst l a) (hb : fst l b) (h : fc l a = fc l b) : a = b := by
  rcases Nat.lt_trichotomy a b with q | q | q
  · have := fc_lt ha q; omega
  · exact q
  · have := fc_lt hb q; omega
theorem Sk_eq {l : List Ev} {c : Nat} (hf : fst l c) : Sk l (fc l c) = Sc l c := by
  funext a
  refine propext ⟨fun h => ⟨h.1, fc_inj (rep_ok h.1).2.1 hf h.2⟩, fun h => ⟨h.1, by rw [h.2]⟩⟩
def TO (p q : Nat → Int) (l : List Ev) (c : Nat) (M : zMem) : Prop := ∀ k, k < fc l c → ∀ w, w < 6 → ∃ v, M.1 44 (6 * k + w) = iI v ∧ Tl p q l (Sk l k) w v
def gsSet (c k : Nat) : Prop := c = 43 ∨ c = 44 ∨ c = 45 ∨ (c = 38 ∧ k = 7)
theorem l_X3_gatherSpots {N : Nat} {p q : Nat → Int} {l : List Ev} {M0 : zMem} {Q : zMem → Prop} (hN : 300 ≤ N) (h0 : MC p q l M0) (hk : okL l) (hQ : ∀ M, fs gsSet M0 M → SO l l.length M → TO p q l l.length M → Q M) : ∀ (r f c : Nat) (M : zMem), r + c = l.length → r + 1 ≤ f → fs gsSet M0 M → SO l c M → TO p q l c M → f_X3_gatherSpots_l2 N Q f (iI (c : Int)) M := by
  have hl := h0.2.1
  intro r
  induction r with
  | zero =>
    intro f c M hr hf hf0 hS hT
    obtain ⟨f, rfl⟩ : ∃ g, f = g + 1 := ⟨f - 1, by omega⟩
    show f_X3_gatherSpots_b2 N (f_X3_gatherSpots_l2 N Q f) (iI (c : Int)) M Q
    unfold f_X3_gatherSpots_b2
    have h3 := MC_fs h0 hf0 (by unfold gsSet; omega) (fun c k _ _ => by unfold gsSet; omega)
    rw [h3.1]
    obtain rfl : c = l.length := by omega
    refine ⟨fun _ => hQ M hf0 hS hT, fun cc => ?_⟩
    simp (disch := omega) only [iI_m1, iI_0, iI_1, iI_2, iI_3, iI_4, iI_5, iI_6, iI_7, iI_8, iI_9, iI_10, iI_11, iI_12, iI_13, iI_16, iI_18, iI_20, iI_24, iI_31, iI_32, iI_33, iI_36, iI_48, iI_57, iI_59, iI_63, iI_64, iI_97, iI_100, iI_101, iI_130, iI_255, iI_256, iI_512, iI_1000, iI_1009, iI_2000, iI_2048, iI_32768, iI_2147483647, iI_add, iI_sub, iI_mul, iI_neg, iI_lt, iI_le, iI_eq, iI_in] at cc
    omega
  | succ r ih =>
    intro f c M hr hf hf0 hS hT
    obtain ⟨f, rfl⟩ : ∃ g, f = g + 1 := ⟨f - 1, by omega⟩
    show f_X3_gatherSpots_b2 N (f_X3_gatherSpots_l2 N Q f) (iI (c : Int)) M Q
    unfold f_X3_gatherSpots_b2
    have h3 := MC_fs h0 hf0 (by unfold gsSet; omega) (fun c k _ _ => by unfold gsSet; omega)
    have hcl : c < l.length := by omega
    have hrc := rep_ok hcl
    have hfr := fc_le l (rep l c)
    rw [h3.1]
    refine ⟨fun cc => ?_, fun _ => ⟨iI_in0 (by omega) (by omega) (by decide), ?_⟩⟩
    · simp (disch := omega) only [iI_m1, iI_0, iI_1, iI_2, iI_3, iI_4, iI_5, iI_6, iI_7, iI_8, iI_9, iI_10, iI_11, iI_12, iI_13, iI_16, iI_18, iI_20, iI_24, iI_31, iI_32, iI_33, iI_36, iI_48, iI_57, iI_59, iI_63, iI_64, iI_97, iI_100, iI_101, iI_130, iI_255, iI_256, iI_512, iI_1000, iI_1009, iI_2000, iI_2048, iI_32768, iI_2147483647, iI_add, iI_sub, iI_mul, iI_neg, iI_lt, iI_le, iI_eq, iI_in] at cc
      omega
    have go : ∀ M', fs gsSet M0 M' → SO l (c + 1) M' → TO p q l (c + 1) M' → f_X3_gatherSpots_b39 N (f_X3_gatherSpots_l2 N Q f) (iI (c : Int)) M' Q := by
      intro M' q1 q2 q3
      unfold f_X3_gatherSpots_b39
      intro v e
      simp (disch := omega) only [iI_m1, iI_0, iI_1, iI_2, iI_3, iI_4, iI_5, iI_6, iI_7, iI_8, iI_9, iI_10, iI_11, iI_12, iI_13, iI_16, iI_18, iI_20, iI_24, iI_31, iI_32, iI_33, iI_36, iI_48, iI_57, iI_59, iI_63, iI_64, iI_97, iI_100, iI_101, iI_130, iI_255, iI_256, iI_512, iI_1000, iI_1009, iI_2000, iI_2048, iI_32768, iI_2147483647, iI_add, iI_sub, iI_mul, iI_neg, iI_lt, iI_le, iI_eq, iI_in] at e
      subst e
      exact ih f (c + 1) M' (by omega) (by omega) q1 q2 q3
    rw [zrd_iI (by omega) (by omega), show ((c : Int)).toNat = c by omega, hS.1 c hcl]
    refine ⟨fun w => ?_, fun w => ?_⟩
    · have hlt : rep l c < c := by
        rcases Nat.lt_or_ge (rep l c) c with h | h
        · exact h
        · rw [ifp_f (by omega)] at w
          exact absurd rfl w
      have hnf : ¬ fst l c := fun hf1 => by have := rep_fst hcl hf1; omega
      have hfc := fc_n hnf
      refine go M hf0 ⟨fun a ha => ?_, by rw [hfc]; exact hS.2⟩ ?_
      · rw [hS.1 a ha, show (rep l a < c) = (rep l a < c + 1) from propext ⟨fun h => by omega, fun h => ?_⟩]
        rcases Nat.lt_or_ge (rep l a) c with h5 | h5
        · exact h5
        · have h6 : rep l a = c := by omega
          exact absurd (by rw [← h6]; exact (rep_ok ha).2.1) hnf
      · intro k hk2
        rw [hfc] at hk2
        exact hT k hk2
    · have hge : rep l c = c := by
        rcases Nat.lt_or_ge (rep l c) c with h | h
        · rw [ifp_t h, iI_m1, iI_eq (by omega) (by omega) (by omega) (by omega)] at w
          omega
        · omega
      have hfs : fst l c := by rw [← hge]; exact hrc.2.1
      have hfc := fc_y hfs
      have hfcl := fc_le l c
      refine t_X3_gather hN h3 hk hcl hfs hS ?_
      intro m g M3 f3 hG
      have h33 := MC_fs h3 f3 (by unfold gSet; omega) (fun c k _ _ => by unfold gSet; omega)
      refine t_X3_tell hN h33 hk hcl hG ?_
      intro M5 f5 t5 M6 e6
      have s5 : M5.1 38 7 = iI (fc l c : Int) := (f5.2 38 7 (fun w => absurd w.1 (by decide))).trans hG.2.1
      rw [s5] at e6
      simp (disch := omega) only [iI_m1, iI_0, iI_1, iI_2, iI_3, iI_4, iI_5, iI_6, iI_7, iI_8, iI_9, iI_10, iI_11, iI_12, iI_13, iI_16, iI_18, iI_20, iI_24, iI_31, iI_32, iI_33, iI_36, iI_48, iI_57, iI_59, iI_63, iI_64, iI_97, iI_100, iI_101, iI_130, iI_255, iI_256, iI_512, iI_1000, iI_1009, iI_2000, iI_2048, iI_32768, iI_2147483647, iI_add, iI_sub, iI_mul, iI_neg, iI_lt, iI_le, iI_eq, iI_in] at e6
      have f6 : fs gsSet M5 M6 := by subst e6; exact fs_wI (Or.inr (Or.inr (Or.inr ⟨rfl, rfl⟩)))
      have f36 : fs gsSet M M5 := (f3.wide (fun c k h => by unfold gSet at h; unfold gsSet; omega)).tr (f5.wide (fun c k h => Or.inr (Or.inl h.1)))
      refine go M6 ((hf0.tr f36).tr f6) ⟨fun a ha => ?_, ?_⟩ ?_
      · have e1 : M6.1 43 a = M3.1 43 a := by
          have e2 : M6.1 43 a = M5.1 43 a := by subst e6; rw [zwI_1, if_neg (by omega)]
          exact e2.trans (f5.2 43 a (fun w => absurd w.1 (by decide)))
        rw [e1, hG.1 a ha, show (rep l a < c ∨ a < l.length ∧ rep l a = c) = (rep l a < c + 1) from propext ⟨fun h => by omega, fun h => by omega⟩]
      · subst e6
        rw [zwI_1, if_pos ⟨rfl, rfl⟩, hfc]
        rfl
      · intro k hk2 v hv
        have e1 : M6.1 44 (6 * k + v) = M5.1 44 (6 * k + v) := by subst e6; rw [zwI_1, if_neg (by omega)]
        rw [e1]
        by_cases hkc : k = fc l c
        · subst hkc
          rw [Sk_eq hfs]
          exact t5 v hv
        · obtain ⟨y, y1, y2⟩ := hT k (by omega) v hv
          refine ⟨y, ?_, y2⟩
          rw [f5.2 44 _ (fun w => by have := w.2; omega), f3.2 44 _ (by unfold gSet; omega)]
          exact y1
/-- what stands in the component once the meetings of p and q are found -/
def FDx (p q : Nat → Int) (M : zMem) : Prop := (100 < (ML p q).length ∧ M.1 38 5 = iI 101) ∨ (MC p q (ML p q) M ∧ M.1 38 6 = iI (((ML p q).countP (fun e => e.2.2) : Nat) : Int) ∧ SO (ML p q) (ML p q).length M ∧ TO p q (ML p q) (ML p q).length M)
def CV (n : Nat) (P : Nat → Nat → Int) (M : zMem) : Prop := (M.1 38 10 = iI (-1) ∧ M.1 38 11 = iI (-1)) ∨ ∃ a b, a < n ∧ b < n ∧ M.1 38 10 = iI ((a : Nat) : Int) ∧ M.1 38 11 = iI ((b : Nat) : Int) ∧ FDx (P a) (P b) M
theorem fs_fz {S : Nat → Nat → Prop} {lo hi : Nat} {M M' : zMem} (h : fs S M M') (hS : ∀ c k, S c k → lo ≤ c ∧ c ≤ hi) : fz lo hi M M' := fun c hc => ⟨funext (fun k => h.2 c k (fun w => by have := hS c k w; omega)), by rw [h.1]⟩
theorem fz_wide {lo hi lo' hi' : Nat} {M M' : zMem} (h : fz lo hi M M') (h1 : lo' ≤ lo) (h2 : hi ≤ hi') : fz lo' hi' M M' := fun c hc => h c (by omega)
theorem t_X3_find {N n a b : Nat} {P : Nat → Nat → Int} {M : zMem} {Q : zMem → Prop} (hN : 300 ≤ N) (hn : n ≤ 4) (ha : a < n) (hb : b < n) (hA : ∀ k, k < n → RA (P k) (5 + 6 * k) M) (hC : CV n P M) (hQ : ∀ M', fz 38 46 M M' → M'.1 46 = M.1 46 → CV n P M' → FDx (P a) (P b) M' → Q M') : f_X3_find N (iI (a : Int)) (iI (b : Int)) M Q := by
  unfold f_X3_find
  have slow : f_X3_find_b17 N (iI (a : Int)) (iI (b : Int)) M Q := by
    unfold f_X3_find_b17
    intro M1 e1 M2 e2 M3 e3 M4 e4 M5 e5
    refine ⟨iI_in0 (by omega) (by omega) (by decide), iI_in0 (by omega) (by omega) (by decide), ?_⟩
    rw [iI_cl (by omega) (by omega), iI_cl (by omega) (by omega), show ((a : Int)).toNat = a by omega, show ((b : Int)).toNat = b by omega]
    have f5 : fz 38 46 M M5 := by
      subst e1; subst e2; subst e3; subst e4; subst e5
      exact ((((fz_wI (by omega) (by omega)).tr (fz_wI (by omega) (by omega))).tr (fz_wI (by omega) (by omega))).tr (fz_wI (by omega) (by omega))).tr (fz_wI (by omega) (by omega))
    have k5 : M5.1 46 = M.1 46 := by
      subst e1; subst e2; subst e3; subst e4; subst e5
      funext k
      simp only [zwI_1]
      repeat rw [if_neg (by omega)]
    have p5 : M5.1 38 10 = iI (a : Int) ∧ M5.1 38 11 = iI (b : Int) ∧ M5.1 38 7 = iI 0 := by
      subst e1; subst e2; subst e3; subst e4; subst e5
      simp only [zwI_1]
      refine ⟨by repeat (first | rw [if_pos (by first | omega | exact ⟨trivial, trivial⟩)] | rw [if_neg (by omega)]), by repeat (first | rw [if_pos (by first | omega | exact ⟨trivial, trivial⟩)] | rw [if_neg (by omega)]), ?_⟩
      rw [if_pos (by first | omega | exact ⟨trivial, trivial⟩)]
      rfl
    have ms5 : MS (P a) (P b) [] M5 := by
      refine ⟨?_, ?_, fun k e h => by simp at h⟩
      · subst e5; rw [zwI_1, if_neg (by omega)]; subst e4; rw [zwI_1, if_neg (by omega)]; subst e3; rw [zwI_1, if_pos ⟨rfl, rfl⟩]; rfl
      · subst e5; rw [zwI_1, if_neg (by omega)]; subst e4; rw [zwI_1, if_pos ⟨rfl, rfl⟩]; rfl
    have RA5 : ∀ k, k < n → RA (P k) (5 + 6 * k) M5 := fun k hk => (hA k hk).fz f5 (by omega)
    refine t_X3_search (p := P a) (q := P b) (by omega) (by omega) (by omega) 5 7 1 1 0 [] M5 _ (by omega) (by omega) (by decide) (by decide) (by decide) (by decide) ms5 (RA5 a ha) (RA5 b hb) ?_
    intro M9 f9 m9
    rw [List.nil_append] at m9
    have m9' : MS (P a) (P b) (ML (P a) (P b)) M9 := m9
    have f9z : fz 38 46 M M9 := f5.tr (fz_wide f9.1 (by omega) (by omega))
    have k9 : M9.1 46 = M.1 46 := (f9.1 46 (by omega)).1.trans k5
    have p9 : M9.1 38 10 = iI (a : Int) ∧ M9.1 38 11 = iI (b : Int) ∧ M9.1 38 7 = iI 0 := ⟨(f9.2 10 (by decide) (by decide)).trans p5.1, (f9.2 11 (by decide) (by decide)).trans p5.2.1, (f9.2 7 (by decide) (by decide)).trans p5.2.2⟩
    refine t_X3_isOver m9'.1 (by omega) (by omega) (fun h => ?_) (fun h => ?_)
    · refine ⟨fun _ => ?_, fun e => absurd e (by decide)⟩
      have hx : FDx (P a) (P b) M9 := Or.inl ⟨by omega, by rw [m9'.1]; congr 1; omega⟩
      exact hQ M9 f9z k9 (Or.inr ⟨a, b, ha, hb, p9.1, p9.2.1, hx⟩) hx
    · refine ⟨fun e => absurd rfl e, fun _ => ?_⟩
      have hlen : (ML (P a) (P b)).length ≤ 100 := by omega
      have c9 : MC (P a) (P b) (ML (P a) (P b)) M9 := by
        refine ⟨by rw [m9'.1]; congr 2; omega, hlen, fun k hk => ?_⟩
        obtain ⟨x1, x2, x3, x4, x5⟩ := m9'.2.2 k _ (ev_at hk) (by omega)
        exact ⟨x1, x2, x3, x4⟩
      unfold f_X3_gatherSpots
      refine l_X3_gatherSpots (M0 := M9) hN c9 (okL_ML _ _) ?_ (ML (P a) (P b)).length N 0 M9 (by omega) (by omega) fs.rf ⟨fun k hk => ?_, p9.2.2⟩ (fun k hk => absurd hk (Nat.not_lt_zero k))
      · intro M' f' s' t'
        have fz' : fz 38 46 M M' := f9z.tr (fs_fz f' (fun c k h => by unfold gsSet at h; omega))
        have k' : M'.1 46 = M.1 46 := (funext (fun k => f'.2 46 k (by unfold gsSet; omega))).trans k9
        have hx : FDx (P a) (P b) M' := by
          refine Or.inr ⟨MC_fs c9 f' (by unfold gsSet; omega) (fun c k _ _ => by unfold gsSet; omega), ?_, s', t'⟩
          rw [f'.2 38 6 (by unfold gsSet; omega), m9'.2.1, List.take_of_length_le (by omega)]
        exact hQ M' fz' k' (Or.inr ⟨a, b, ha, hb, (f'.2 38 10 (by unfold gsSet; omega)).trans p9.1, (f'.2 38 11 (by unfold gsSet; omega)).trans p9.2.1, hx⟩) hx
      · obtain ⟨x1, x2, x3, x4, x5⟩ := m9'.2.2 k _ (ev_at hk) (by omega)
        rw [x5, ifp_f (by omega)]
  refine ⟨fun _ => slow, fun w1 => ⟨fun _ => slow, fun w2 => ?_⟩⟩
  have hCc := hC
  rcases hC with hC | ⟨a', b', h1, h2, h3, h4, h5⟩
  · rw [hC.1, iI_eq (by omega) (by omega) (by omega) (by omega)] at w1
    omega
  · rw [h3, iI_eq (by omega) (by omega) (by omega) (by omega)] at w1
    rw [h4, iI_eq (by omega) (by omega) (by omega) (by omega)] at w2
    obtain rfl : a' = a := by omega
    obtain rfl : b' = b := by omega
    exact hQ M fz.rf rfl hCc h5
