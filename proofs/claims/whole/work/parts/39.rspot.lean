/-! ===== the reference tells of a spot ===== -/
theorem fc_ex {l : List Ev} {k : Nat} : ∀ L, k < fc l L → ∃ c, c < L ∧ fst l c ∧ fc l c = k := by
  intro L
  induction L with
  | zero => intro h; exact absurd h (Nat.not_lt_zero k)
  | succ L ih =>
    intro h
    rcases Classical.em (fst l L) with hf | hf
    · rw [fc_y hf] at h
      rcases Nat.lt_or_ge k (fc l L) with h2 | h2
      · obtain ⟨c, c1, c2⟩ := ih h2
        exact ⟨c, by omega, c2⟩
      · exact ⟨L, by omega, hf, by omega⟩
    · rw [fc_n hf] at h
      obtain ⟨c, c1, c2⟩ := ih h
      exact ⟨c, by omega, c2⟩
theorem Sk_ne {l : List Ev} {k : Nat} (h : k < fc l l.length) : ∃ a, Sk l k a := by
  obtain ⟨c, c1, c2, c3⟩ := fc_ex l.length h
  exact ⟨c, c1, by rw [rep_fst c1 c2]; exact c3⟩
theorem Sk_cert {l : List Ev} {k a b : Nat} (ha : Sk l k a) (hb : Sk l k b) (h : (ev l a).2.2 = true) : b = a := by
  have e : rep l a = rep l b := fc_inj (rep_ok ha.1).2.1 (rep_ok hb.1).2.1 (ha.2.trans hb.2.symm)
  have h1 := (rep_ok ha.1).2.2
  have h2 := (rep_ok hb.1).2.2
  rw [← e] at h2
  exact cert_iso h (h1.sy.tr h2)
theorem cnS_sub {S T : Nat → Prop} : ∀ k, cnS (fun a => S a ∧ T a) k ≤ cnS S k ∧ (cnS (fun a => S a ∧ T a) k = cnS S k → ∀ a, a < k → S a → T a) := by
  intro k
  induction k with
  | zero => exact ⟨Nat.le_refl _, fun _ a h => absurd h (Nat.not_lt_zero a)⟩
  | succ k ih =>
    rcases Classical.em (S k) with hs | hs
    · rcases Classical.em (T k) with ht | ht
      · rw [cnS_y (S := fun a => S a ∧ T a) ⟨hs, ht⟩, cnS_y hs]
        refine ⟨by omega, fun e a ha hsa => ?_⟩
        by_cases hak : a = k
        · subst hak; exact ht
        · exact ih.2 (by omega) a (by omega) hsa
      · rw [cnS_n (S := fun a => S a ∧ T a) (fun w => ht w.2), cnS_y hs]
        exact ⟨by omega, fun e => by omega⟩
    · rw [cnS_n (S := fun a => S a ∧ T a) (fun w => hs w.1), cnS_n hs]
      refine ⟨ih.1, fun e a ha hsa => ?_⟩
      by_cases hak : a = k
      · subst hak; exact absurd hsa hs
      · exact ih.2 e a (by omega) hsa
def SPr (l : List Ev) (M : zMem) : Prop := ∀ k, k < l.length → M.1 60 k = iI (fc l (rep l k) : Int)
theorem SPr_of {l : List Ev} {sp : Nat → Nat} {M : zMem} (h : IsSp l sp) (hM : ∀ k, k < l.length → M.1 60 k = iI (sp k : Int)) : SPr l M := fun k hk => by
  rw [hM k hk, h.un (rep_sp l) hk]
theorem MR3_ev {l : List Ev} {M : zMem} (h : MR3 l M) {a : Nat} (ha : a < l.length) : M.1 57 a = iI ((ev l a).1 : Int) ∧ M.1 58 a = iI ((ev l a).2.1 : Int) ∧ M.1 59 a = iI (bI (ev l a).2.2) := h.2.2 a _ (ev_at ha)
theorem t_X8_kindOf {N a b k : Nat} {p q : Nat → Int} {l : List Ev} {M : zMem} {Q : Int32 → zMem → Prop} (hN : 300 ≤ N) (hA : RLd p a M) (hB : RLd q b M) (h3 : MR3 l M) (hk : okL l) (hS : SPr l M) (hk2 : k < fc l l.length) (hQ : Q (iI (kdS p q l (Sk l k))) M) : f_X8_kindOf N (iI a) (iI b) (iI k) M Q := by
  unfold f_X8_kindOf
  have hl := h3.2.1
  have hkl := fc_le l l.length
  have rr : ∀ (c k : Nat), k < 2147483648 → zrd M c (iI (k : Int)) = M.1 c k := fun c k hk => by rw [zrd_iI (by omega) (by omega), show ((k : Int)).toNat = k by omega]
  have lp : ∀ (r f d : Nat) (x7 : Int32), r + d = l.length → r + 1 ≤ f → ((x7 = iI 1 ∧ ∃ a, a < d ∧ Sk l k a ∧ (ev l a).2.2 = true) ∨ (x7 = iI 0 ∧ ¬ ∃ a, a < d ∧ Sk l k a ∧ (ev l a).2.2 = true)) → f_X8_kindOf_l15 N (iI a) (iI b) (iI k) Q f (iI (cnS (Sk l k) d : Int)) (iI (cnS (fun a => Sk l k a ∧ trn p (ev l a).1 q (ev l a).2.1 = 1) d : Int)) (iI (cnS (fun a => Sk l k a ∧ trn p (ev l a).1 q (ev l a).2.1 = -1) d : Int)) x7 (iI (d : Int)) M := by
    intro r
    induction r with
    | zero =>
      intro f d x7 hr hf hx
      obtain ⟨f, rfl⟩ : ∃ g, f = g + 1 := ⟨f - 1, by omega⟩
      show f_X8_kindOf_b15 N (f_X8_kindOf_l15 N (iI a) (iI b) (iI k) Q f) (iI a) (iI b) (iI k) _ _ _ x7 (iI (d : Int)) M Q
      unfold f_X8_kindOf_b15
      rw [h3.1]
      obtain rfl : d = l.length := by omega
      have c0 := cnS_le (Sk l k) l.length
      have c1 := cnS_sub (S := Sk l k) (T := fun a => trn p (ev l a).1 q (ev l a).2.1 = 1) l.length
      have c2 := cnS_sub (S := Sk l k) (T := fun a => trn p (ev l a).1 q (ev l a).2.1 = -1) l.length
      refine ⟨fun _ => ?_, fun cc => ?_⟩
      · rcases hx with hx | hx
        · rw [hx.1]
          refine ⟨fun e => absurd e (by decide), fun _ => ?_⟩
          obtain ⟨a, a1, a2, a3⟩ := hx.2
          unfold kdS at hQ
          rw [ifp_t ⟨a, a2, a3⟩] at hQ
          exact hQ
        · rw [hx.1]
          refine ⟨fun _ => ?_, fun e => absurd rfl e⟩
          unfold kdS at hQ
          rw [ifp_f (fun ⟨a, a2, a3⟩ => hx.2 ⟨a, a2.1, a2, a3⟩)] at hQ
          refine ⟨fun e => ?_, fun e => ⟨fun e2 => ?_, fun e2 => ?_⟩⟩
          · rw [iI_eq (by omega) (by omega) (by omega) (by omega)] at e
            rw [ifp_t (Or.inl (fun a ha => c1.2 (by omega) a ha.1 ha))] at hQ
            exact hQ
          · rw [iI_eq (by omega) (by omega) (by omega) (by omega)] at e e2
            rw [ifp_f ?_] at hQ
            · refine ⟨fun c12 => ?_, fun c12 => ?_⟩
              · simp (disch := omega) only [iI_m1, iI_0, iI_1, iI_2, iI_3, iI_4, iI_5, iI_6, iI_7, iI_8, iI_9, iI_10, iI_11, iI_12, iI_13, iI_16, iI_18, iI_20, iI_24, iI_31, iI_32, iI_33, iI_36, iI_48, iI_57, iI_59, iI_63, iI_64, iI_97, iI_100, iI_101, iI_130, iI_255, iI_256, iI_512, iI_1000, iI_1009, iI_2000, iI_2048, iI_32768, iI_2147483647, iI_add, iI_sub, iI_mul, iI_neg, iI_lt, iI_le, iI_eq, iI_in] at c12
                rw [ifp_t (by omega)] at hQ
                exact hQ
              · simp (disch := omega) only [iI_m1, iI_0, iI_1, iI_2, iI_3, iI_4, iI_5, iI_6, iI_7, iI_8, iI_9, iI_10, iI_11, iI_12, iI_13, iI_16, iI_18, iI_20, iI_24, iI_31, iI_32, iI_33, iI_36, iI_48, iI_57, iI_59, iI_63, iI_64, iI_97, iI_100, iI_101, iI_130, iI_255, iI_256, iI_512, iI_1000, iI_1009, iI_2000, iI_2048, iI_32768, iI_2147483647, iI_add, iI_sub, iI_mul, iI_neg, iI_lt, iI_le, iI_eq, iI_in] at c12
                rw [ifp_f (by omega)] at hQ
                exact hQ
            · intro hh
              rcases hh with hh | hh
              · refine e ?_
                rw [cnS_to (T := Sk l k) l.length (fun a _ => ⟨fun w => w.1, fun w => ⟨w, hh a w⟩⟩)]
              · refine e2 ?_
                rw [cnS_to (T := Sk l k) l.length (fun a _ => ⟨fun w => w.1, fun w => ⟨w, hh a w⟩⟩)]
          · rw [iI_eq (by omega) (by omega) (by omega) (by omega)] at e2
            rw [ifp_t (Or.inr (fun a ha => c2.2 (by omega) a ha.1 ha))] at hQ
            exact hQ
      · simp (disch := omega) only [iI_m1, iI_0, iI_1, iI_2, iI_3, iI_4, iI_5, iI_6, iI_7, iI_8, iI_9, iI_10, iI_11, iI_12, iI_13, iI_16, iI_18, iI_20, iI_24, iI_31, iI_32, iI_33, iI_36, iI_48, iI_57, iI_59, iI_63, iI_64, iI_97, iI_100, iI_101, iI_130, iI_255, iI_256, iI_512, iI_1000, iI_1009, iI_2000, iI_2048, iI_32768, iI_2147483647, iI_add, iI_sub, iI_mul, iI_neg, iI_lt, iI_le, iI_eq, iI_in] at cc
        omega
    | succ r ih =>
      intro f d x7 hr hf hx
      obtain ⟨f, rfl⟩ : ∃ g, f = g + 1 := ⟨f - 1, by omega⟩
      show f_X8_kindOf_b15 N (f_X8_kindOf_l15 N (iI a) (iI b) (iI k) Q f) (iI a) (iI b) (iI k) _ _ _ x7 (iI (d : Int)) M Q
      unfold f_X8_kindOf_b15
      rw [h3.1]
      have hdl : d < l.length := by omega
      have vd : vp_in (iI (d : Int)) 100 := iI_in0 (by omega) (by omega) (by decide)
      have hfd := fc_le l (rep l d)
      have hrd := (rep_ok hdl).1
      obtain ⟨x1, x2, x3⟩ := MR3_ev h3 hdl
      have ok := hk _ (ev_mem hdl)
      have tin := trn_in p (ev l d).1 q (ev l d).2.1
      refine ⟨fun cc => ?_, fun _ => ⟨vd, ?_⟩⟩
      · simp (disch := omega) only [iI_m1, iI_0, iI_1, iI_2, iI_3, iI_4, iI_5, iI_6, iI_7, iI_8, iI_9, iI_10, iI_11, iI_12, iI_13, iI_16, iI_18, iI_20, iI_24, iI_31, iI_32, iI_33, iI_36, iI_48, iI_57, iI_59, iI_63, iI_64, iI_97, iI_100, iI_101, iI_130, iI_255, iI_256, iI_512, iI_1000, iI_1009, iI_2000, iI_2048, iI_32768, iI_2147483647, iI_add, iI_sub, iI_mul, iI_neg, iI_lt, iI_le, iI_eq, iI_in] at cc
        omega
      rw [rr 60 d (by omega), hS d hdl, rr 59 d (by omega), rr 57 d (by omega), rr 58 d (by omega), x1, x2, x3]
      refine ⟨fun ne => ?_, fun eq v2 e2 => ⟨vd, fun v3 e3 => ⟨vd, vd, ?_⟩⟩⟩
      · have hn : ¬ Sk l k d := fun w => ne (by rw [w.2])
        unfold f_X8_kindOf_b99
        intro v e
        simp (disch := omega) only [iI_m1, iI_0, iI_1, iI_2, iI_3, iI_4, iI_5, iI_6, iI_7, iI_8, iI_9, iI_10, iI_11, iI_12, iI_13, iI_16, iI_18, iI_20, iI_24, iI_31, iI_32, iI_33, iI_36, iI_48, iI_57, iI_59, iI_63, iI_64, iI_97, iI_100, iI_101, iI_130, iI_255, iI_256, iI_512, iI_1000, iI_1009, iI_2000, iI_2048, iI_32768, iI_2147483647, iI_add, iI_sub, iI_mul, iI_neg, iI_lt, iI_le, iI_eq, iI_in] at e
        subst e
        have := ih f (d + 1) x7 (by omega) (by omega) (by
          rcases hx with hx | hx
          · obtain ⟨a, a1, a2⟩ := hx.2
            exact Or.inl ⟨hx.1, a, by omega, a2⟩
          · refine Or.inr ⟨hx.1, fun ⟨a, a1, a2⟩ => hx.2 ⟨a, ?_, a2⟩⟩
            by_cases had : a = d
            · subst had; exact absurd a2.1 hn
            · omega)
        rw [cnS_n hn, cnS_n (S := fun a => Sk l k a ∧ trn p (ev l a).1 q (ev l a).2.1 = 1) (fun w => hn w.1), cnS_n (S := fun a => Sk l k a ∧ trn p (ev l a).1 q (ev l a).2.1 = -1) (fun w => hn w.1)] at this
        exact this
      · rw [iI_eq (by omega) (by omega) (by omega) (by omega)] at eq
        have hy : Sk l k d := ⟨hdl, by omega⟩
        refine t_X8_turnOf (by omega) hA hB ok.1.1 ok.1.2 ok.2.1 ok.2.2 ?_
        have fin : ∀ v6 v7 : Int32, v6 = iI (cnS (fun a => Sk l k a ∧ trn p (ev l a).1 q (ev l a).2.1 = 1) (d + 1) : Int) → v7 = iI (cnS (fun a => Sk l k a ∧ trn p (ev l a).1 q (ev l a).2.1 = -1) (d + 1) : Int) → f_X8_kindOf_b99 N (f_X8_kindOf_l15 N (iI a) (iI b) (iI k) Q f) (iI a) (iI b) (iI k) v2 v6 v7 v3 (iI (d : Int)) M Q := by
          intro v6 v7 h6 h7
          unfold f_X8_kindOf_b99
          intro v e
          simp (disch := omega) only [iI_m1, iI_0, iI_1, iI_2, iI_3, iI_4, iI_5, iI_6, iI_7, iI_8, iI_9, iI_10, iI_11, iI_12, iI_13, iI_16, iI_18, iI_20, iI_24, iI_31, iI_32, iI_33, iI_36, iI_48, iI_57, iI_59, iI_63, iI_64, iI_97, iI_100, iI_101, iI_130, iI_255, iI_256, iI_512, iI_1000, iI_1009, iI_2000, iI_2048, iI_32768, iI_2147483647, iI_add, iI_sub, iI_mul, iI_neg, iI_lt, iI_le, iI_eq, iI_in] at e
          subst e
          have h2 : v2 = iI (cnS (Sk l k) (d + 1) : Int) := by rw [e2, cnS_y hy, iI_1, iI_add]; rfl
          rw [h2, h6, h7]
          refine ih f (d + 1) v3 (by omega) (by omega) ?_
          rw [e3]
          rcases bI_c (ev l d).2.2 with hb | hb
          · rw [hb.2]; exact Or.inl ⟨rfl, d, by omega, hy, hb.1⟩
          · rw [hb.2]
            refine Or.inr ⟨rfl, fun ⟨a, a1, a2, a3⟩ => ?_⟩
            have := Sk_cert a2 hy a3
            subst this
            rw [hb.1] at a3
            exact absurd a3 (by decide)
        have n1 : ∀ c : Nat, iI (c : Int) + 1 = iI ((c + 1 : Nat) : Int) := fun c => by rw [iI_1, iI_add]; rfl
        have n0 : ∀ c : Nat, iI (c : Int) + 0 = iI (c : Int) := fun c => by rw [iI_0, iI_add, Int.add_zero]
        rcases tin with t | t | t
        · rw [t]
          refine ⟨fun w => absurd w (by decide), fun _ => ?_⟩
          unfold f_X8_kindOf_b81
          intro v6 h6
          refine ⟨fun _ => ?_, fun w => absurd (by decide) w⟩
          unfold f_X8_kindOf_b96
          intro v7 h7
          refine fin v6 v7 ?_ ?_
          · rw [cnS_y (S := fun a => Sk l k a ∧ trn p (ev l a).1 q (ev l a).2.1 = 1) ⟨hy, t⟩, h6, n1]
          · rw [cnS_n (S := fun a => Sk l k a ∧ trn p (ev l a).1 q (ev l a).2.1 = -1) (fun w => by have := w.2; omega), h7, n0]
        · rw [t]
          refine ⟨fun _ => ?_, fun w => absurd (by decide) w⟩
          unfold f_X8_kindOf_b81
          intro v6 h6
          refine ⟨fun w => absurd w (by decide), fun _ => ?_⟩
          unfold f_X8_kindOf_b96
          intro v7 h7
          refine fin v6 v7 ?_ ?_
          · rw [cnS_n (S := fun a => Sk l k a ∧ trn p (ev l a).1 q (ev l a).2.1 = 1) (fun w => by have := w.2; omega), h6, n0]
          · rw [cnS_y (S := fun a => Sk l k a ∧ trn p (ev l a).1 q (ev l a).2.1 = -1) ⟨hy, t⟩, h7, n1]
        · rw [t]
          refine ⟨fun _ => ?_, fun w => absurd (by decide) w⟩
          unfold f_X8_kindOf_b81
          intro v6 h6
          refine ⟨fun _ => ?_, fun w => absurd (by decide) w⟩
          unfold f_X8_kindOf_b96
          intro v7 h7
          refine fin v6 v7 ?_ ?_
          · rw [cnS_n (S := fun a => Sk l k a ∧ trn p (ev l a).1 q (ev l a).2.1 = 1) (fun w => by have := w.2; omega), h6, n0]
          · rw [cnS_n (S := fun a => Sk l k a ∧ trn p (ev l a).1 q (ev l a).2.1 = -1) (fun w => by have := w.2; omega), h7, n0]
  exact lp l.length N 0 (iI 0) (by omega) (by omega) (Or.inr ⟨rfl, fun ⟨a, a1, _⟩ => absurd a1 (Nat.not_lt_zero a)⟩)
def nfO (l : List Ev) (w a : Nat) : Nat := if 4 ≤ w then (ev l a).2.1 else (ev l a).1
theorem t_X8_ofSpot {N k w : Nat} {p q : Nat → Int} {l : List Ev} {M : zMem} {Q : Int32 → zMem → Prop} (hN : 300 ≤ N) (h3 : MR3 l M) (hk : okL l) (hS : SPr l M) (hk2 : k < fc l l.length) (hw : 1 ≤ w) (hw2 : w < 6) (hQ : ∀ v, Tl p q l (Sk l k) w v → Q (iI v) M) : f_X8_ofSpot N (iI k) (iI w) M Q := by
  unfold f_X8_ofSpot
  have hl := h3.2.1
  have hkl := fc_le l l.length
  have rr : ∀ (c k : Nat), k < 2147483648 → zrd M c (iI (k : Int)) = M.1 c k := fun c k hk => by rw [zrd_iI (by omega) (by omega), show ((k : Int)).toNat = k by omega]
  have lp : ∀ (r f d : Nat) (u v : Int), r + d = l.length → r + 1 ≤ f → (-1 ≤ u ∧ u ≤ 33 ∧ -1 ≤ v ∧ v ≤ 33) → (∀ a, a < d → Sk l k a → u ≤ fr (nfO l w a) ∧ tt (nfO l w a) ≤ v) → ((u = 33 ∧ v = -1 ∧ ∀ a, a < d → ¬ Sk l k a) ∨ ((∃ a, Sk l k a ∧ u = fr (nfO l w a)) ∧ ∃ a, Sk l k a ∧ v = tt (nfO l w a))) → f_X8_ofSpot_l12 N (iI k) (iI w) Q f (iI (cnS (Sk l k) d : Int)) (iI u) (iI v) (iI (d : Int)) M := by
    intro r
    induction r with
    | zero =>
      intro f d u v hr hf hb h1 h2
      obtain ⟨f, rfl⟩ : ∃ g, f = g + 1 := ⟨f - 1, by omega⟩
      show f_X8_ofSpot_b12 N (f_X8_ofSpot_l12 N (iI k) (iI w) Q f) (iI k) (iI w) _ (iI u) (iI v) (iI (d : Int)) M Q
      unfold f_X8_ofSpot_b12
      rw [h3.1]
      obtain rfl : d = l.length := by omega
      refine ⟨fun _ => ?_, fun cc => ?_⟩
      · have hne : ¬ (u = 33 ∧ v = -1 ∧ ∀ a, a < l.length → ¬ Sk l k a) := by
          intro hh
          obtain ⟨a, ha⟩ := Sk_ne hk2
          exact hh.2.2 a ha.1 ha
        obtain ⟨⟨a1, a2, a3⟩, a4, a5, a6⟩ := h2.resolve_left hne
        have mn : mnS (fun a => fr (nfO l w a)) (Sk l k) u := ⟨fun a ha => (h1 a ha.1 ha).1, a1, a2, a3.symm⟩
        have mx : mxS (fun a => tt (nfO l w a)) (Sk l k) v := ⟨fun a ha => (h1 a ha.1 ha).2, a4, a5, a6.symm⟩
        rcases (show w = 1 ∨ w = 2 ∨ w = 3 ∨ w = 4 ∨ w = 5 by omega) with rfl | rfl | rfl | rfl | rfl
        · refine ⟨fun e => absurd rfl e, fun _ => hQ _ ⟨fun e => absurd e (by decide), fun _ => rfl, fun e => absurd e (by decide), fun e => absurd e (by decide), fun e => absurd e (by decide), fun e => absurd e (by decide)⟩⟩
        · refine ⟨fun _ => ⟨fun e => absurd (by decide) e, fun _ => hQ _ ⟨fun e => absurd e (by decide), fun e => absurd e (by decide), fun _ => mn, fun e => absurd e (by decide), fun e => absurd e (by decide), fun e => absurd e (by decide)⟩⟩, fun e => absurd e (by decide)⟩
        · refine ⟨fun _ => ⟨fun _ => hQ _ ⟨fun e => absurd e (by decide), fun e => absurd e (by decide), fun e => absurd e (by decide), fun _ => mx, fun e => absurd e (by decide), fun e => absurd e (by decide)⟩, fun e => absurd e (by decide)⟩, fun e => absurd e (by decide)⟩
        · refine ⟨fun _ => ⟨fun e => absurd (by decide) e, fun _ => hQ _ ⟨fun e => absurd e (by decide), fun e => absurd e (by decide), fun e => absurd e (by decide), fun e => absurd e (by decide), fun _ => mn, fun e => absurd e (by decide)⟩⟩, fun e => absurd e (by decide)⟩
        · refine ⟨fun _ => ⟨fun _ => hQ _ ⟨fun e => absurd e (by decide), fun e => absurd e (by decide), fun e => absurd e (by decide), fun e => absurd e (by decide), fun e => absurd e (by decide), fun _ => mx⟩, fun e => absurd e (by decide)⟩, fun e => absurd e (by decide)⟩
      · simp (disch := omega) only [iI_m1, iI_0, iI_1, iI_2, iI_3, iI_4, iI_5, iI_6, iI_7, iI_8, iI_9, iI_10, iI_11, iI_12, iI_13, iI_16, iI_18, iI_20, iI_24, iI_31, iI_32, iI_33, iI_36, iI_48, iI_57, iI_59, iI_63, iI_64, iI_97, iI_100, iI_101, iI_130, iI_255, iI_256, iI_512, iI_1000, iI_1009, iI_2000, iI_2048, iI_32768, iI_2147483647, iI_add, iI_sub, iI_mul, iI_neg, iI_lt, iI_le, iI_eq, iI_in] at cc
        omega
    | succ r ih =>
      intro f d u v hr hf hb h1 h2
      obtain ⟨f, rfl⟩ : ∃ g, f = g + 1 := ⟨f - 1, by omega⟩
      show f_X8_ofSpot_b12 N (f_X8_ofSpot_l12 N (iI k) (iI w) Q f) (iI k) (iI w) _ (iI u) (iI v) (iI (d : Int)) M Q
      unfold f_X8_ofSpot_b12
      rw [h3.1]
      have hdl : d < l.length := by omega
      have vd : vp_in (iI (d : Int)) 100 := iI_in0 (by omega) (by omega) (by decide)
      have hfd := fc_le l (rep l d)
      have hrd := (rep_ok hdl).1
      obtain ⟨x1, x2, x3⟩ := MR3_ev h3 hdl
      have ok := hk _ (ev_mem hdl)
      refine ⟨fun cc => ?_, fun _ => ⟨vd, ?_⟩⟩
      · simp (disch := omega) only [iI_m1, iI_0, iI_1, iI_2, iI_3, iI_4, iI_5, iI_6, iI_7, iI_8, iI_9, iI_10, iI_11, iI_12, iI_13, iI_16, iI_18, iI_20, iI_24, iI_31, iI_32, iI_33, iI_36, iI_48, iI_57, iI_59, iI_63, iI_64, iI_97, iI_100, iI_101, iI_130, iI_255, iI_256, iI_512, iI_1000, iI_1009, iI_2000, iI_2048, iI_32768, iI_2147483647, iI_add, iI_sub, iI_mul, iI_neg, iI_lt, iI_le, iI_eq, iI_in] at cc
        omega
      rw [rr 60 d (by omega), hS d hdl, rr 57 d (by omega), rr 58 d (by omega), x1, x2]
      refine ⟨fun ne => ?_, fun eq => ?_⟩
      · have hn : ¬ Sk l k d := fun w => ne (by rw [w.2])
        unfold f_X8_ofSpot_b103
        intro y e
        simp (disch := omega) only [iI_m1, iI_0, iI_1, iI_2, iI_3, iI_4, iI_5, iI_6, iI_7, iI_8, iI_9, iI_10, iI_11, iI_12, iI_13, iI_16, iI_18, iI_20, iI_24, iI_31, iI_32, iI_33, iI_36, iI_48, iI_57, iI_59, iI_63, iI_64, iI_97, iI_100, iI_101, iI_130, iI_255, iI_256, iI_512, iI_1000, iI_1009, iI_2000, iI_2048, iI_32768, iI_2147483647, iI_add, iI_sub, iI_mul, iI_neg, iI_lt, iI_le, iI_eq, iI_in] at e
        subst e
        have := ih f (d + 1) u v (by omega) (by omega) hb (fun a ha hsa => h1 a (by
            by_cases had : a = d
            · subst had; exact absurd hsa hn
            · omega) hsa) (h2.imp (fun h => ⟨h.1, h.2.1, fun a ha hsa => h.2.2 a (by
            by_cases had : a = d
            · subst had; exact absurd hsa hn
            · omega) hsa⟩) (fun h => h))
        rw [cnS_n hn] at this
        exact this
      · rw [iI_eq (by omega) (by omega) (by omega) (by omega)] at eq
        have hy : Sk l k d := ⟨hdl, by omega⟩
        have body : ∀ m : Nat, m = nfO l w d → 1 ≤ m → m < 64 → f_X8_ofSpot_b54 N (f_X8_ofSpot_l12 N (iI k) (iI w) Q f) (iI k) (iI w) (iI (cnS (Sk l k) d : Int)) (iI u) (iI v) (iI (d : Int)) (iI (m : Int)) M Q := by
          intro m hm m1 m2
          have hfr := fr_in m m2 m1
          unfold f_X8_ofSpot_b54
          intro v2 e2
          have h2' : v2 = iI (cnS (Sk l k) (d + 1) : Int) := by rw [e2, cnS_y hy, iI_1, iI_add]; rfl
          subst h2'
          have last : ∀ v' : Int, v' = max (tt m) v → f_X8_ofSpot_b101 N (f_X8_ofSpot_l12 N (iI k) (iI w) Q f) (iI k) (iI w) (iI (cnS (Sk l k) (d + 1) : Int)) (iI (min (fr m) u)) (iI (d : Int)) (iI v') M Q := by
            intro v' hv'
            unfold f_X8_ofSpot_b101 f_X8_ofSpot_b103
            intro y e
            simp (disch := omega) only [iI_m1, iI_0, iI_1, iI_2, iI_3, iI_4, iI_5, iI_6, iI_7, iI_8, iI_9, iI_10, iI_11, iI_12, iI_13, iI_16, iI_18, iI_20, iI_24, iI_31, iI_32, iI_33, iI_36, iI_48, iI_57, iI_59, iI_63, iI_64, iI_97, iI_100, iI_101, iI_130, iI_255, iI_256, iI_512, iI_1000, iI_1009, iI_2000, iI_2048, iI_32768, iI_2147483647, iI_add, iI_sub, iI_mul, iI_neg, iI_lt, iI_le, iI_eq, iI_in] at e
            subst e
            refine ih f (d + 1) (min (fr m) u) v' (by omega) (by omega) (by omega) (fun a ha hsa => ?_) (Or.inr ⟨?_, ?_⟩)
            · by_cases had : a = d
              · subst had; rw [← hm]; omega
              · have := h1 a (by omega) hsa
                omega
            · by_cases hlt : fr m ≤ u
              · exact ⟨d, hy, by rw [← hm]; omega⟩
              · rcases h2 with h2 | h2
                · omega
                · obtain ⟨a, q1, q2⟩ := h2.1
                  exact ⟨a, q1, by omega⟩
            · by_cases hlt : v ≤ tt m
              · exact ⟨d, hy, by rw [← hm]; omega⟩
              · rcases h2 with h2 | h2
                · omega
                · obtain ⟨a, q1, q2⟩ := h2.2
                  exact ⟨a, q1, by omega⟩
          have mid : f_X8_ofSpot_b79 N (f_X8_ofSpot_l12 N (iI k) (iI w) Q f) (iI k) (iI w) (iI (cnS (Sk l k) (d + 1) : Int)) (iI v) (iI (d : Int)) (iI (m : Int)) (iI (min (fr m) u)) M Q := by
            unfold f_X8_ofSpot_b79
            refine t_X8_to (by omega) m1 m2 ?_
            refine ⟨fun c => ?_, fun c => ?_⟩
            · rw [iI_le (by omega) (by omega) (by omega) (by omega)] at c
              exact last v (by omega)
            · rw [iI_le (by omega) (by omega) (by omega) (by omega)] at c
              refine t_X8_to (by omega) m1 m2 ?_
              exact last (tt m) (by omega)
          refine t_X8_from (by omega) m1 m2 ?_
          refine ⟨fun c => ?_, fun c => ?_⟩
          · rw [iI_le (by omega) (by omega) (by omega) (by omega)] at c
            rw [show min (fr m) u = u by omega] at mid
            exact mid
          · rw [iI_le (by omega) (by omega) (by omega) (by omega)] at c
            refine t_X8_from (by omega) m1 m2 ?_
            rw [show min (fr m) u = fr m by omega] at mid
            exact mid
        refine ⟨fun c => ⟨vd, ?_⟩, fun c => ⟨vd, ?_⟩⟩
        · simp (disch := omega) only [iI_m1, iI_0, iI_1, iI_2, iI_3, iI_4, iI_5, iI_6, iI_7, iI_8, iI_9, iI_10, iI_11, iI_12, iI_13, iI_16, iI_18, iI_20, iI_24, iI_31, iI_32, iI_33, iI_36, iI_48, iI_57, iI_59, iI_63, iI_64, iI_97, iI_100, iI_101, iI_130, iI_255, iI_256, iI_512, iI_1000, iI_1009, iI_2000, iI_2048, iI_32768, iI_2147483647, iI_add, iI_sub, iI_mul, iI_neg, iI_lt, iI_le, iI_eq, iI_in] at c
          exact body (ev l d).2.1 (by unfold nfO; rw [if_pos (by omega)]) ok.2.1 ok.2.2
        · simp (disch := omega) only [iI_m1, iI_0, iI_1, iI_2, iI_3, iI_4, iI_5, iI_6, iI_7, iI_8, iI_9, iI_10, iI_11, iI_12, iI_13, iI_16, iI_18, iI_20, iI_24, iI_31, iI_32, iI_33, iI_36, iI_48, iI_57, iI_59, iI_63, iI_64, iI_97, iI_100, iI_101, iI_130, iI_255, iI_256, iI_512, iI_1000, iI_1009, iI_2000, iI_2048, iI_32768, iI_2147483647, iI_add, iI_sub, iI_mul, iI_neg, iI_lt, iI_le, iI_eq, iI_in] at c
          exact body (ev l d).1 (by unfold nfO; rw [if_neg (by omega)]) ok.1.1 ok.1.2
  exact lp l.length N 0 33 (-1) (by omega) (by omega) (by omega) (fun a h => absurd h (Nat.not_lt_zero a)) (Or.inl ⟨rfl, rfl, fun a h => absurd h (Nat.not_lt_zero a)⟩)
