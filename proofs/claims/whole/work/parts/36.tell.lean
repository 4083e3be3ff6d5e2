/-! ===== what is told of a spot ===== -/
noncomputable def kdS (p q : Nat → Int) (l : List Ev) (S : Nat → Prop) : Int := ifp (∃ a, S a ∧ (ev l a).2.2 = true) 0 (ifp ((∀ a, S a → trn p (ev l a).1 q (ev l a).2.1 = 1) ∨ (∀ a, S a → trn p (ev l a).1 q (ev l a).2.1 = -1)) 1 (ifp (12 ≤ cnS S l.length) 3 2))
def mnS (F : Nat → Int) (S : Nat → Prop) (v : Int) : Prop := (∀ a, S a → v ≤ F a) ∧ ∃ a, S a ∧ F a = v
def mxS (F : Nat → Int) (S : Nat → Prop) (v : Int) : Prop := (∀ a, S a → F a ≤ v) ∧ ∃ a, S a ∧ F a = v
def Tl (p q : Nat → Int) (l : List Ev) (S : Nat → Prop) (w : Nat) (v : Int) : Prop :=
  (w = 0 → v = kdS p q l S) ∧ (w = 1 → v = (cnS S l.length : Int)) ∧ (w = 2 → mnS (fun a => fr (ev l a).1) S v) ∧ (w = 3 → mxS (fun a => tt (ev l a).1) S v) ∧ (w = 4 → mnS (fun a => fr (ev l a).2.1) S v) ∧ (w = 5 → mxS (fun a => tt (ev l a).2.1) S v)
theorem mnS_un {F : Nat → Int} {S : Nat → Prop} {v w : Int} (h : mnS F S v) (h' : mnS F S w) : v = w := by
  obtain ⟨a, a1, a2⟩ := h.2
  obtain ⟨b, b1, b2⟩ := h'.2
  have := h.1 b b1
  have := h'.1 a a1
  omega
theorem mxS_un {F : Nat → Int} {S : Nat → Prop} {v w : Int} (h : mxS F S v) (h' : mxS F S w) : v = w := by
  obtain ⟨a, a1, a2⟩ := h.2
  obtain ⟨b, b1, b2⟩ := h'.2
  have := h.1 b b1
  have := h'.1 a a1
  omega
theorem Tl_un {p q : Nat → Int} {l : List Ev} {S : Nat → Prop} {k : Nat} {v w : Int} (hk : k < 6) (h : Tl p q l S k v) (h' : Tl p q l S k w) : v = w := by
  obtain ⟨a0, a1, a2, a3, a4, a5⟩ := h
  obtain ⟨b0, b1, b2, b3, b4, b5⟩ := h'
  rcases (show k = 0 ∨ k = 1 ∨ k = 2 ∨ k = 3 ∨ k = 4 ∨ k = 5 by omega) with h | h | h | h | h | h
  · rw [a0 h, b0 h]
  · rw [a1 h, b1 h]
  · exact mnS_un (a2 h) (b2 h)
  · exact mxS_un (a3 h) (b3 h)
  · exact mnS_un (a4 h) (b4 h)
  · exact mxS_un (a5 h) (b5 h)
theorem iI_mnn {a b : Int} (h1 : -2147483648 ≤ a) (h2 : a < 2147483648) (h3 : -2147483648 ≤ b) (h4 : b < 2147483648) : (if iI a < iI b then iI a else iI b) = iI (min a b) := by
  by_cases h : a < b
  · rw [if_pos (by rw [iI_lt h1 h2 h3 h4]; exact h)]; congr 1; omega
  · rw [if_neg (by rw [iI_lt h1 h2 h3 h4]; exact h)]; congr 1; omega
theorem iI_mxx {a b : Int} (h1 : -2147483648 ≤ a) (h2 : a < 2147483648) (h3 : -2147483648 ≤ b) (h4 : b < 2147483648) : (if iI b < iI a then iI a else iI b) = iI (max a b) := by
  by_cases h : b < a
  · rw [if_pos (by rw [iI_lt h3 h4 h1 h2]; exact h)]; congr 1; omega
  · rw [if_neg (by rw [iI_lt h3 h4 h1 h2]; exact h)]; congr 1; omega
theorem l_X3_width {N m : Nat} {M : zMem} {Q : Int32 → zMem → Prop} (h1 : 1 ≤ m) (h2 : m < 64) (hQ : Q (iI (wd m : Int)) M) : ∀ (r f j : Nat), r + j = 5 → r + 1 ≤ f → (∀ i, i < j → m * 2 ^ i < 32) → f_X3_width_l4 N (iI m) Q f (iI ((2 ^ j : Nat) : Int)) (iI (j : Int)) M := by
  intro r
  induction r with
  | zero =>
    intro f j hj hf hi
    obtain ⟨f, rfl⟩ : ∃ g, f = g + 1 := ⟨f - 1, by omega⟩
    show f_X3_width_b4 N (f_X3_width_l4 N (iI m) Q f) (iI m) (iI ((2 ^ j : Nat) : Int)) (iI (j : Int)) M Q
    unfold f_X3_width_b4
    obtain rfl : j = 5 := by omega
    refine ⟨fun _ => ?_, fun c => absurd (by decide) c⟩
    have h4 := hi 4 (by decide)
    rw [show wd m = 2 ^ 5 by unfold wd; rw [if_pos (by omega)]] at hQ
    exact hQ
  | succ r ih =>
    intro f j hj hf hi
    obtain ⟨f, rfl⟩ : ∃ g, f = g + 1 := ⟨f - 1, by omega⟩
    show f_X3_width_b4 N (f_X3_width_l4 N (iI m) Q f) (iI m) (iI ((2 ^ j : Nat) : Int)) (iI (j : Int)) M Q
    unfold f_X3_width_b4
    have hp : 2 ^ j ≤ 16 := by rcases (show j = 0 ∨ j = 1 ∨ j = 2 ∨ j = 3 ∨ j = 4 by omega) with rfl | rfl | rfl | rfl | rfl <;> decide
    have hm : m * 2 ^ j ≤ 64 * 16 := Nat.mul_le_mul (by omega) hp
    have e1 : iI (m : Int) * iI ((2 ^ j : Nat) : Int) = iI ((m * 2 ^ j : Nat) : Int) := by rw [iI_mul]; congr 1
    refine ⟨fun c => ?_, fun _ => ?_⟩
    · simp (disch := omega) only [iI_m1, iI_0, iI_1, iI_2, iI_3, iI_4, iI_5, iI_6, iI_7, iI_8, iI_9, iI_10, iI_11, iI_12, iI_13, iI_16, iI_18, iI_20, iI_24, iI_31, iI_32, iI_33, iI_36, iI_48, iI_57, iI_59, iI_63, iI_64, iI_97, iI_100, iI_101, iI_130, iI_255, iI_256, iI_512, iI_1000, iI_1009, iI_2000, iI_2048, iI_32768, iI_2147483647, iI_add, iI_sub, iI_mul, iI_neg, iI_lt, iI_le, iI_eq, iI_in] at c
      omega
    rw [e1]
    refine ⟨fun c => ?_, fun c v1 g1 v2 g2 => ?_⟩
    · simp (disch := omega) only [iI_m1, iI_0, iI_1, iI_2, iI_3, iI_4, iI_5, iI_6, iI_7, iI_8, iI_9, iI_10, iI_11, iI_12, iI_13, iI_16, iI_18, iI_20, iI_24, iI_31, iI_32, iI_33, iI_36, iI_48, iI_57, iI_59, iI_63, iI_64, iI_97, iI_100, iI_101, iI_130, iI_255, iI_256, iI_512, iI_1000, iI_1009, iI_2000, iI_2048, iI_32768, iI_2147483647, iI_add, iI_sub, iI_mul, iI_neg, iI_lt, iI_le, iI_eq, iI_in] at c
      have e2 : wd m = 2 ^ j := by
        rcases (show j = 0 ∨ j = 1 ∨ j = 2 ∨ j = 3 ∨ j = 4 by omega) with rfl | rfl | rfl | rfl | rfl
        · unfold wd; repeat' split
          all_goals simp at c; try omega
        · have h := hi 0 (by decide); unfold wd; repeat' split
          all_goals simp at c h; try omega
        · have h := hi 1 (by decide); unfold wd; repeat' split
          all_goals simp at c h; try omega
        · have h := hi 2 (by decide); unfold wd; repeat' split
          all_goals simp at c h; try omega
        · have h := hi 3 (by decide); unfold wd; repeat' split
          all_goals simp at c h; try omega
      rw [e2] at hQ
      exact hQ
    · simp (disch := omega) only [iI_m1, iI_0, iI_1, iI_2, iI_3, iI_4, iI_5, iI_6, iI_7, iI_8, iI_9, iI_10, iI_11, iI_12, iI_13, iI_16, iI_18, iI_20, iI_24, iI_31, iI_32, iI_33, iI_36, iI_48, iI_57, iI_59, iI_63, iI_64, iI_97, iI_100, iI_101, iI_130, iI_255, iI_256, iI_512, iI_1000, iI_1009, iI_2000, iI_2048, iI_32768, iI_2147483647, iI_add, iI_sub, iI_mul, iI_neg, iI_lt, iI_le, iI_eq, iI_in] at c
      rw [iI_2, iI_mul, show ((2 ^ j : Nat) : Int) * 2 = ((2 ^ (j + 1) : Nat) : Int) by rw [Nat.pow_succ]; omega] at g1
      simp (disch := omega) only [iI_m1, iI_0, iI_1, iI_2, iI_3, iI_4, iI_5, iI_6, iI_7, iI_8, iI_9, iI_10, iI_11, iI_12, iI_13, iI_16, iI_18, iI_20, iI_24, iI_31, iI_32, iI_33, iI_36, iI_48, iI_57, iI_59, iI_63, iI_64, iI_97, iI_100, iI_101, iI_130, iI_255, iI_256, iI_512, iI_1000, iI_1009, iI_2000, iI_2048, iI_32768, iI_2147483647, iI_add, iI_sub, iI_mul, iI_neg, iI_lt, iI_le, iI_eq, iI_in] at g2
      subst g1; subst g2
      refine ih f (j + 1) (by omega) (by omega) (fun i hi2 => ?_)
      by_cases hij : i = j
      · subst hij; omega
      · exact hi i (by omega)
theorem t_X3_width {N m : Nat} {M : zMem} {Q : Int32 → zMem → Prop} (hN : 100 ≤ N) (h1 : 1 ≤ m) (h2 : m < 64) (hQ : Q (iI (wd m : Int)) M) : f_X3_width N (iI m) M Q := by
  unfold f_X3_width
  exact l_X3_width h1 h2 hQ 5 N 0 (by omega) (by omega) (fun i h => by omega)
theorem cert_iso {l : List Ev} {a b : Nat} (h : (ev l a).2.2 = true) (hc : Cn l a b) : b = a := by
  refine hc (fun x => x = a) rfl (fun x y hx hxy => ?_)
  subst hx
  have := (nrI_ev.mp hxy).2.2.1
  rw [h] at this
  exact absurd this (by decide)
/-- the members of the spot whose first is c -/
def Sc (l : List Ev) (c : Nat) : Nat → Prop := fun a => a < l.length ∧ rep l a = c
theorem Sc_cn {l : List Ev} {c a : Nat} (h : Sc l c a) : Cn l c a := by rw [← h.2]; exact (rep_ok h.1).2.2
theorem t_X3_kind {N c m : Nat} {p q : Nat → Int} {l : List Ev} {g : Nat → Nat} {M : zMem} {Q : Int32 → zMem → Prop} (hN : 300 ≤ N) (h0 : MC p q l M) (hc : c < l.length) (hG : GS l c (Sc l c) m g M) (hQ : Q (iI (kdS p q l (Sc l c))) M) : f_X3_kind N (iI m) M Q := by
  unfold f_X3_kind
  have hl := h0.2.1
  obtain ⟨g1, g2, g3, g4, g5, g6, g7, g8⟩ := hG
  have hm := cnS_le (Sc l c) l.length
  rw [← g4] at hm
  have rr : ∀ (c k : Nat), k < 2147483648 → zrd M c (iI (k : Int)) = M.1 c k := fun c k hk => by rw [zrd_iI (by omega) (by omega), show ((k : Int)).toNat = k by omega]
  have r0 : zrd M 45 0 = iI (c : Int) := by
    have h := (g5 0 g7).2
    rw [g8] at h
    exact (rr 45 0 (by decide)).trans h
  have hSc : Sc l c c := by have h := (g5 0 g7).1; rw [g8] at h; exact h
  have vc : vp_in (iI (c : Int)) 101 := iI_in0 (by omega) (by omega) (by decide)
  obtain ⟨x1, x2, x3, x4⟩ := h0.2.2 c hc
  refine ⟨iI_in0 (z := 0) (by decide) (by decide) (by decide), fun v1 e1 => ?_⟩
  rw [r0] at e1
  subst e1
  rw [rr 41 c (by omega), rr 42 c (by omega), x3, x4, bI_0]
  refine ⟨vc, fun w => ⟨vc, ?_⟩, fun w => ?_⟩
  · have nocert : ¬ ∃ a, Sc l c a ∧ (ev l a).2.2 = true := by
      rintro ⟨a, a1, a2⟩
      have : c = a := cert_iso a2 (Sc_cn a1).sy
      subst this
      rw [w] at a2
      exact absurd a2 (by decide)
    have lp : ∀ (r f k : Nat) (x : Int32), r + k = m → r + 1 ≤ f → 1 ≤ k → ((x = iI 1 ∧ trn p (ev l c).1 q (ev l c).2.1 ≠ 0 ∧ ∀ k', k' < k → trn p (ev l (g k')).1 q (ev l (g k')).2.1 = trn p (ev l c).1 q (ev l c).2.1) ∨ (x = iI 0 ∧ ¬ (trn p (ev l c).1 q (ev l c).2.1 ≠ 0 ∧ ∀ a, Sc l c a → trn p (ev l a).1 q (ev l a).2.1 = trn p (ev l c).1 q (ev l c).2.1))) → f_X3_kind_l36 N (iI m) (iI c) Q f x (iI (k : Int)) M := by
      intro r
      induction r with
      | zero =>
        intro f k x hr hf hk hx
        obtain ⟨f, rfl⟩ : ∃ g, f = g + 1 := ⟨f - 1, by omega⟩
        show f_X3_kind_b36 N (f_X3_kind_l36 N (iI m) (iI c) Q f) (iI m) (iI c) x (iI (k : Int)) M Q
        unfold f_X3_kind_b36
        refine ⟨fun _ => ?_, fun cc => ?_⟩
        · unfold kdS at hQ
          rw [ifp_f nocert] at hQ
          rcases hx with hx | hx
          · rw [hx.1]
            refine ⟨fun e => absurd e (by decide), fun _ => ?_⟩
            rw [ifp_t ?_] at hQ
            · exact hQ
            · have all : ∀ a, Sc l c a → trn p (ev l a).1 q (ev l a).2.1 = trn p (ev l c).1 q (ev l c).2.1 := by
                intro a ha
                obtain ⟨k', k1, k2⟩ := g6 a ha
                rw [← k2]
                exact hx.2.2 k' (by omega)
              rcases trn_in p (ev l c).1 q (ev l c).2.1 with t | t | t
              · rw [t] at all; exact Or.inl all
              · rw [t] at all; exact Or.inr all
              · exact absurd t hx.2.1
          · rw [hx.1]
            refine ⟨fun _ => ?_, fun e => absurd rfl e⟩
            rw [ifp_f ?_] at hQ
            · refine ⟨fun c12 => ?_, fun c12 => ?_⟩
              · simp (disch := omega) only [iI_m1, iI_0, iI_1, iI_2, iI_3, iI_4, iI_5, iI_6, iI_7, iI_8, iI_9, iI_10, iI_11, iI_12, iI_13, iI_16, iI_18, iI_20, iI_24, iI_31, iI_32, iI_33, iI_36, iI_48, iI_57, iI_59, iI_63, iI_64, iI_97, iI_100, iI_101, iI_130, iI_255, iI_256, iI_512, iI_1000, iI_1009, iI_2000, iI_2048, iI_32768, iI_2147483647, iI_add, iI_sub, iI_mul, iI_neg, iI_lt, iI_le, iI_eq, iI_in] at c12
                rw [ifp_t (by omega)] at hQ
                exact hQ
              · simp (disch := omega) only [iI_m1, iI_0, iI_1, iI_2, iI_3, iI_4, iI_5, iI_6, iI_7, iI_8, iI_9, iI_10, iI_11, iI_12, iI_13, iI_16, iI_18, iI_20, iI_24, iI_31, iI_32, iI_33, iI_36, iI_48, iI_57, iI_59, iI_63, iI_64, iI_97, iI_100, iI_101, iI_130, iI_255, iI_256, iI_512, iI_1000, iI_1009, iI_2000, iI_2048, iI_32768, iI_2147483647, iI_add, iI_sub, iI_mul, iI_neg, iI_lt, iI_le, iI_eq, iI_in] at c12
                rw [ifp_f (by omega)] at hQ
                exact hQ
            · intro hh
              refine hx.2 ?_
              rcases hh with hh | hh
              · rw [hh c hSc]; exact ⟨by decide, hh⟩
              · rw [hh c hSc]; exact ⟨by decide, hh⟩
        · simp (disch := omega) only [iI_m1, iI_0, iI_1, iI_2, iI_3, iI_4, iI_5, iI_6, iI_7, iI_8, iI_9, iI_10, iI_11, iI_12, iI_13, iI_16, iI_18, iI_20, iI_24, iI_31, iI_32, iI_33, iI_36, iI_48, iI_57, iI_59, iI_63, iI_64, iI_97, iI_100, iI_101, iI_130, iI_255, iI_256, iI_512, iI_1000, iI_1009, iI_2000, iI_2048, iI_32768, iI_2147483647, iI_add, iI_sub, iI_mul, iI_neg, iI_lt, iI_le, iI_eq, iI_in] at cc
          omega
      | succ r ih =>
        intro f k x hr hf hk hx
        obtain ⟨f, rfl⟩ : ∃ g, f = g + 1 := ⟨f - 1, by omega⟩
        show f_X3_kind_b36 N (f_X3_kind_l36 N (iI m) (iI c) Q f) (iI m) (iI c) x (iI (k : Int)) M Q
        unfold f_X3_kind_b36
        have go : ∀ s, ((s = iI 1 ∧ trn p (ev l c).1 q (ev l c).2.1 ≠ 0 ∧ ∀ k', k' < k + 1 → trn p (ev l (g k')).1 q (ev l (g k')).2.1 = trn p (ev l c).1 q (ev l c).2.1) ∨ (s = iI 0 ∧ ¬ (trn p (ev l c).1 q (ev l c).2.1 ≠ 0 ∧ ∀ a, Sc l c a → trn p (ev l a).1 q (ev l a).2.1 = trn p (ev l c).1 q (ev l c).2.1))) → f_X3_kind_b72 N (f_X3_kind_l36 N (iI m) (iI c) Q f) (iI m) (iI c) (iI (k : Int)) s M Q := by
          intro s hs
          unfold f_X3_kind_b72
          intro v e
          simp (disch := omega) only [iI_m1, iI_0, iI_1, iI_2, iI_3, iI_4, iI_5, iI_6, iI_7, iI_8, iI_9, iI_10, iI_11, iI_12, iI_13, iI_16, iI_18, iI_20, iI_24, iI_31, iI_32, iI_33, iI_36, iI_48, iI_57, iI_59, iI_63, iI_64, iI_97, iI_100, iI_101, iI_130, iI_255, iI_256, iI_512, iI_1000, iI_1009, iI_2000, iI_2048, iI_32768, iI_2147483647, iI_add, iI_sub, iI_mul, iI_neg, iI_lt, iI_le, iI_eq, iI_in] at e
          subst e
          exact ih f (k + 1) s (by omega) (by omega) (by omega) hs
        have gk := g5 k (by omega)
        have gl := g3 _ gk.1
        refine ⟨fun cc => ?_, fun _ => ⟨fun w0 => ?_, fun w0 => ⟨iI_in0 (by omega) (by omega) (by decide), ?_⟩⟩⟩
        · simp (disch := omega) only [iI_m1, iI_0, iI_1, iI_2, iI_3, iI_4, iI_5, iI_6, iI_7, iI_8, iI_9, iI_10, iI_11, iI_12, iI_13, iI_16, iI_18, iI_20, iI_24, iI_31, iI_32, iI_33, iI_36, iI_48, iI_57, iI_59, iI_63, iI_64, iI_97, iI_100, iI_101, iI_130, iI_255, iI_256, iI_512, iI_1000, iI_1009, iI_2000, iI_2048, iI_32768, iI_2147483647, iI_add, iI_sub, iI_mul, iI_neg, iI_lt, iI_le, iI_eq, iI_in] at cc
          omega
        · unfold f_X3_kind_b71
          rcases hx with hx | hx
          · rw [hx.1] at w0; exact absurd w0 (by decide)
          · exact go 0 (Or.inr ⟨rfl, hx.2⟩)
        · rcases hx with hx | hx
          · rw [rr 45 k (by omega), gk.2, rr 42 (g k) (by omega), rr 42 c (by omega), x4, (h0.2.2 _ gl.1).2.2.2]
            have t1 := trn_in p (ev l c).1 q (ev l c).2.1
            have t2 := trn_in p (ev l (g k)).1 q (ev l (g k)).2.1
            refine ⟨iI_in0 (by omega) (by omega) (by decide), vc, fun ne => ?_, fun eq => ?_⟩
            · unfold f_X3_kind_b71
              refine go 0 (Or.inr ⟨rfl, fun hh => ne ?_⟩)
              rw [hh.2 _ gk.1]
            · refine go 1 (Or.inl ⟨rfl, hx.2.1, fun k' hk' => ?_⟩)
              by_cases hkk : k' = k
              · subst hkk
                rw [iI_eq (by omega) (by omega) (by omega) (by omega)] at eq
                exact eq
              · exact hx.2.2 k' (by omega)
          · exact absurd hx.1 w0
    have t1 := trn_in p (ev l c).1 q (ev l c).2.1
    refine ⟨fun e => ?_, fun e => ?_⟩
    · unfold f_X3_kind_b32
      simp (disch := omega) only [iI_m1, iI_0, iI_1, iI_2, iI_3, iI_4, iI_5, iI_6, iI_7, iI_8, iI_9, iI_10, iI_11, iI_12, iI_13, iI_16, iI_18, iI_20, iI_24, iI_31, iI_32, iI_33, iI_36, iI_48, iI_57, iI_59, iI_63, iI_64, iI_97, iI_100, iI_101, iI_130, iI_255, iI_256, iI_512, iI_1000, iI_1009, iI_2000, iI_2048, iI_32768, iI_2147483647, iI_add, iI_sub, iI_mul, iI_neg, iI_lt, iI_le, iI_eq, iI_in] at e
      exact lp (m - 1) N 1 (iI 0) (by omega) (by omega) (by omega) (Or.inr ⟨rfl, fun hh => hh.1 e⟩)
    · unfold f_X3_kind_b32
      simp (disch := omega) only [iI_m1, iI_0, iI_1, iI_2, iI_3, iI_4, iI_5, iI_6, iI_7, iI_8, iI_9, iI_10, iI_11, iI_12, iI_13, iI_16, iI_18, iI_20, iI_24, iI_31, iI_32, iI_33, iI_36, iI_48, iI_57, iI_59, iI_63, iI_64, iI_97, iI_100, iI_101, iI_130, iI_255, iI_256, iI_512, iI_1000, iI_1009, iI_2000, iI_2048, iI_32768, iI_2147483647, iI_add, iI_sub, iI_mul, iI_neg, iI_lt, iI_le, iI_eq, iI_in] at e
      refine lp (m - 1) N 1 (iI 1) (by omega) (by omega) (by omega) (Or.inl ⟨rfl, e, fun k' hk' => ?_⟩)
      obtain rfl : k' = 0 := by omega
      rw [g8]
  · have hcert : (ev l c).2.2 = true := by
      rcases bI_c (ev l c).2.2 with h | h
      · exact h.1
      · exact absurd h.1 w
    unfold kdS at hQ
    rw [ifp_t ⟨c, hSc, hcert⟩] at hQ
    exact hQ
def s44 (lo hi c k : Nat) : Prop := c = 44 ∧ lo ≤ k ∧ k < hi
theorem t_X3_tellStretch {N m at' a2 : Nat} {S : Nat → Prop} {nf : Nat → Nat} {g : Nat → Nat} {M : zMem} {Q : zMem → Prop} (hN : 300 ≤ N) (hm : 0 < m) (hm2 : m ≤ 100) (hat : at' + 2 ≤ 600) (ha2 : zln a2 = 101) (hg : ∀ k, k < m → S (g k) ∧ g k < 101 ∧ M.1 45 k = iI (g k : Int) ∧ M.1 a2 (g k) = iI (nf (g k) : Int) ∧ 1 ≤ nf (g k) ∧ nf (g k) < 64) (hg2 : ∀ a, S a → ∃ k, k < m ∧ g k = a) (hQ : ∀ M' u v, fs (s44 at' (at' + 2)) M M' → M'.1 44 at' = iI u → M'.1 44 (at' + 1) = iI v → mnS (fun a => fr (nf a)) S u → mxS (fun a => tt (nf a)) S v → Q M') : f_X3_tellStretch N (iI at') a2 (iI m) M Q := by
  unfold f_X3_tellStretch
  have rr : ∀ (c k : Nat), k < 2147483648 → zrd M c (iI (k : Int)) = M.1 c k := fun c k hk => by rw [zrd_iI (by omega) (by omega), show ((k : Int)).toNat = k by omega]
  have lp : ∀ (r f k : Nat) (u v : Int), r + k = m → r + 1 ≤ f → (0 ≤ u ∧ u ≤ 32 ∧ 0 ≤ v ∧ v ≤ 32) → (∀ k', k' < k → u ≤ fr (nf (g k')) ∧ tt (nf (g k')) ≤ v) → ((k = 0 ∧ u = 32 ∧ v = 0) ∨ ((∃ k', k' < k ∧ u = fr (nf (g k'))) ∧ ∃ k', k' < k ∧ v = tt (nf (g k')))) → f_X3_tellStretch_l10 N (iI at') a2 (iI m) Q f (iI u) (iI v) (iI (k : Int)) M := by
    intro r
    induction r with
    | zero =>
      intro f k u v hr hf hb h1 h2
      obtain ⟨f, rfl⟩ : ∃ g, f = g + 1 := ⟨f - 1, by omega⟩
      show f_X3_tellStretch_b10 N (f_X3_tellStretch_l10 N (iI at') a2 (iI m) Q f) (iI at') a2 (iI m) (iI u) (iI v) (iI (k : Int)) M Q
      unfold f_X3_tellStretch_b10
      refine ⟨fun _ => ⟨iI_in0 (by omega) (by omega) (by decide), fun M1 e1 => ?_⟩, fun cc => ?_⟩
      · rw [iI_1, iI_add]
        refine ⟨iI_in0 (by omega) (by omega) (by decide), fun M2 e2 => ?_⟩
        rw [zst_iI (by omega) (by omega), show ((at' : Int)).toNat = at' by omega] at e1
        rw [zst_iI (by omega) (by omega), show ((at' : Int) + 1).toNat = at' + 1 by omega] at e2
        rcases h2 with h2 | ⟨⟨k1, h2, h3⟩, k2, h4, h5⟩
        · omega
        · refine hQ M2 u v ?_ ?_ ?_ ⟨fun a ha => ?_, g k1, (hg k1 (by omega)).1, h3.symm⟩ ⟨fun a ha => ?_, g k2, (hg k2 (by omega)).1, h5.symm⟩
          · subst e1; subst e2
            exact (fs_wI ⟨rfl, by omega, by omega⟩).tr (fs_wI ⟨rfl, by omega, by omega⟩)
          · subst e1; subst e2
            rw [zwI_1, if_neg (by omega), zwI_1, if_pos ⟨rfl, rfl⟩]
          · subst e1; subst e2
            rw [zwI_1, if_pos ⟨rfl, rfl⟩]
          · obtain ⟨k', q1, q2⟩ := hg2 a ha
            rw [← q2]
            exact (h1 k' (by omega)).1
          · obtain ⟨k', q1, q2⟩ := hg2 a ha
            rw [← q2]
            exact (h1 k' (by omega)).2
      · simp (disch := omega) only [iI_m1, iI_0, iI_1, iI_2, iI_3, iI_4, iI_5, iI_6, iI_7, iI_8, iI_9, iI_10, iI_11, iI_12, iI_13, iI_16, iI_18, iI_20, iI_24, iI_31, iI_32, iI_33, iI_36, iI_48, iI_57, iI_59, iI_63, iI_64, iI_97, iI_100, iI_101, iI_130, iI_255, iI_256, iI_512, iI_1000, iI_1009, iI_2000, iI_2048, iI_32768, iI_2147483647, iI_add, iI_sub, iI_mul, iI_neg, iI_lt, iI_le, iI_eq, iI_in] at cc
        omega
    | succ r ih =>
      intro f k u v hr hf hb h1 h2
      obtain ⟨f, rfl⟩ : ∃ g, f = g + 1 := ⟨f - 1, by omega⟩
      show f_X3_tellStretch_b10 N (f_X3_tellStretch_l10 N (iI at') a2 (iI m) Q f) (iI at') a2 (iI m) (iI u) (iI v) (iI (k : Int)) M Q
      unfold f_X3_tellStretch_b10
      obtain ⟨y1, y2, y3, y4, y5, y6⟩ := hg k (by omega)
      have hfr := fr_in (nf (g k)) y6 y5
      refine ⟨fun cc => ?_, fun _ => ⟨iI_in0 (by omega) (by omega) (by decide), ?_⟩⟩
      · simp (disch := omega) only [iI_m1, iI_0, iI_1, iI_2, iI_3, iI_4, iI_5, iI_6, iI_7, iI_8, iI_9, iI_10, iI_11, iI_12, iI_13, iI_16, iI_18, iI_20, iI_24, iI_31, iI_32, iI_33, iI_36, iI_48, iI_57, iI_59, iI_63, iI_64, iI_97, iI_100, iI_101, iI_130, iI_255, iI_256, iI_512, iI_1000, iI_1009, iI_2000, iI_2048, iI_32768, iI_2147483647, iI_add, iI_sub, iI_mul, iI_neg, iI_lt, iI_le, iI_eq, iI_in] at cc
        omega
      · rw [rr 45 k (by omega), y3, rr a2 (g k) (by omega), y4, ha2]
        refine ⟨iI_in0 (by omega) (by omega) (by decide), fun v3 e3 => ?_⟩
        subst e3
        refine t_X3_width (by omega) y5 y6 ?_
        intro v6 e6 v7 e7 v8 e8 v9 e9
        rw [iI_32, iI_mul, iI_sub, show ((nf (g k) : Nat) : Int) * (wd (nf (g k)) : Nat) - 32 = fr (nf (g k)) from rfl] at e6
        subst e6
        rw [iI_mnn (by omega) (by omega) (by omega) (by omega)] at e7
        rw [iI_add, show fr (nf (g k)) + (wd (nf (g k)) : Nat) = tt (nf (g k)) from rfl, iI_mxx (by omega) (by omega) (by omega) (by omega)] at e8
        simp (disch := omega) only [iI_m1, iI_0, iI_1, iI_2, iI_3, iI_4, iI_5, iI_6, iI_7, iI_8, iI_9, iI_10, iI_11, iI_12, iI_13, iI_16, iI_18, iI_20, iI_24, iI_31, iI_32, iI_33, iI_36, iI_48, iI_57, iI_59, iI_63, iI_64, iI_97, iI_100, iI_101, iI_130, iI_255, iI_256, iI_512, iI_1000, iI_1009, iI_2000, iI_2048, iI_32768, iI_2147483647, iI_add, iI_sub, iI_mul, iI_neg, iI_lt, iI_le, iI_eq, iI_in] at e9
        subst e7; subst e8; subst e9
        refine ih f (k + 1) _ _ (by omega) (by omega) (by omega) (fun k' hk' => ?_) (Or.inr ⟨?_, ?_⟩)
        · by_cases hkk : k' = k
          · subst hkk; omega
          · have := h1 k' (by omega)
            omega
        · by_cases hlt : fr (nf (g k)) ≤ u
          · exact ⟨k, by omega, by omega⟩
          · rcases h2 with h2 | h2
            · omega
            · obtain ⟨k1, q1, q2⟩ := h2.1
              exact ⟨k1, by omega, by omega⟩
        · by_cases hlt : v ≤ tt (nf (g k))
          · exact ⟨k, by omega, by omega⟩
          · rcases h2 with h2 | h2
            · omega
            · obtain ⟨k1, q1, q2⟩ := h2.2
              exact ⟨k1, by omega, by omega⟩
  exact lp m N 0 32 0 (by omega) (by omega) (by omega) (fun k' h => by omega) (Or.inl ⟨rfl, rfl, rfl⟩)
theorem t_X3_tell {N c m : Nat} {p q : Nat → Int} {l : List Ev} {g : Nat → Nat} {M : zMem} {Q : zMem → Prop} (hN : 300 ≤ N) (h0 : MC p q l M) (hk : okL l) (hc : c < l.length) (hG : GS l c (Sc l c) m g M) (hQ : ∀ M', fs (s44 (6 * fc l c) (6 * fc l c + 6)) M M' → (∀ w, w < 6 → ∃ v, M'.1 44 (6 * fc l c + w) = iI v ∧ Tl p q l (Sc l c) w v) → Q M') : f_X3_tell N (iI m) M Q := by
  unfold f_X3_tell
  have hl := h0.2.1
  have hGc := hG
  obtain ⟨g1, g2, g3, g4, g5, g6, g7, g8⟩ := hGc
  have hm := cnS_le (Sc l c) l.length
  rw [← g4] at hm
  have hfc := fc_le l c
  intro v1 e1
  rw [g2, iI_6, iI_mul, show (fc l c : Int) * 6 = ((6 * fc l c : Nat) : Int) by omega] at e1
  subst e1
  refine t_X3_kind hN h0 hc hG ?_
  refine ⟨iI_in0 (by omega) (by omega) (by decide), fun M4 e4 => ?_⟩
  rw [iI_1, iI_add]
  refine ⟨iI_in0 (by omega) (by omega) (by decide), fun M5 e5 => ?_⟩
  rw [zst_iI (by omega) (by omega), show ((6 * fc l c : Nat) : Int).toNat = 6 * fc l c by omega] at e4
  rw [zst_iI (by omega) (by omega), show (((6 * fc l c : Nat) : Int) + 1).toNat = 6 * fc l c + 1 by omega] at e5
  rw [iI_2, iI_add, iI_4, iI_add]
  have f5 : fs (s44 (6 * fc l c) (6 * fc l c + 6)) M M5 := by
    subst e4; subst e5
    exact (fs_wI ⟨rfl, by omega, by omega⟩).tr (fs_wI ⟨rfl, by omega, by omega⟩)
  have k0 : M5.1 44 (6 * fc l c) = iI (kdS p q l (Sc l c)) := by
    subst e4; subst e5
    rw [zwI_1, if_neg (by omega), zwI_1, if_pos ⟨rfl, rfl⟩]
  have k1 : M5.1 44 (6 * fc l c + 1) = iI (m : Int) := by
    subst e4; subst e5
    rw [zwI_1, if_pos ⟨rfl, rfl⟩]
  have no44 : ∀ {lo hi c k : Nat}, c ≠ 44 → ¬ s44 lo hi c k := fun h w => h w.1
  have h5 := MC_fs h0 f5 (no44 (by decide)) (fun c k _ _ => no44 (by omega))
  have d5 : ∀ k, k < m → g k < 101 ∧ M5.1 45 k = iI (g k : Int) ∧ g k < l.length := fun k hk' => ⟨by have := (g3 _ (g5 k hk').1).1; omega, (f5.2 _ _ (no44 (by decide))).trans (g5 k hk').2, (g3 _ (g5 k hk').1).1⟩
  refine t_X3_tellStretch (at' := 6 * fc l c + 2) (S := Sc l c) (nf := fun a => (ev l a).1) (g := g) hN g7 (by omega) (by omega) (by decide) (fun k hk' => ?_) g6 ?_
  · obtain ⟨z1, z2, z3⟩ := d5 k hk'
    have ok := hk _ (ev_mem z3)
    exact ⟨(g5 k hk').1, z1, z2, (h5.2.2 _ z3).1, ok.1.1, ok.1.2⟩
  intro M7 u2 u3 f7 a2 a3 t2 t3
  have h7 := MC_fs h5 f7 (no44 (by decide)) (fun c k _ _ => no44 (by omega))
  refine t_X3_tellStretch (at' := 6 * fc l c + 4) (S := Sc l c) (nf := fun a => (ev l a).2.1) (g := g) hN g7 (by omega) (by omega) (by decide) (fun k hk' => ?_) g6 ?_
  · obtain ⟨z1, z2, z3⟩ := d5 k hk'
    have ok := hk _ (ev_mem z3)
    exact ⟨(g5 k hk').1, z1, (f7.2 _ _ (no44 (by decide))).trans z2, (h7.2.2 _ z3).2.1, ok.2.1, ok.2.2⟩
  intro M9 u4 u5 f9 a4 a5 t4 t5
  refine hQ M9 ((f5.tr (f7.wide (fun c k h => ⟨h.1, by have := h.2; omega, by have := h.2; omega⟩))).tr (f9.wide (fun c k h => ⟨h.1, by have := h.2; omega, by have := h.2; omega⟩))) ?_
  have keep : ∀ j, j < 2 → M9.1 44 (6 * fc l c + j) = M5.1 44 (6 * fc l c + j) := fun j hj => (f9.2 _ _ (fun w => by have := w.2; omega)).trans (f7.2 _ _ (fun w => by have := w.2; omega))
  have keep2 : ∀ j, j < 4 → M9.1 44 (6 * fc l c + j) = M7.1 44 (6 * fc l c + j) := fun j hj => f9.2 _ _ (fun w => by have := w.2; omega)
  intro w hw
  rcases (show w = 0 ∨ w = 1 ∨ w = 2 ∨ w = 3 ∨ w = 4 ∨ w = 5 by omega) with rfl | rfl | rfl | rfl | rfl | rfl
  · exact ⟨_, (keep 0 (by decide)).trans k0, fun _ => rfl, fun e => absurd e (by decide), fun e => absurd e (by decide), fun e => absurd e (by decide), fun e => absurd e (by decide), fun e => absurd e (by decide)⟩
  · exact ⟨_, (keep 1 (by decide)).trans k1, fun e => absurd e (by decide), fun _ => by rw [g4], fun e => absurd e (by decide), fun e => absurd e (by decide), fun e => absurd e (by decide), fun e => absurd e (by decide)⟩
  · exact ⟨_, (keep2 2 (by decide)).trans a2, fun e => absurd e (by decide), fun e => absurd e (by decide), fun _ => t2, fun e => absurd e (by decide), fun e => absurd e (by decide), fun e => absurd e (by decide)⟩
  · exact ⟨_, (keep2 3 (by decide)).trans a3, fun e => absurd e (by decide), fun e => absurd e (by decide), fun e => absurd e (by decide), fun _ => t3, fun e => absurd e (by decide), fun e => absurd e (by decide)⟩
  · exact ⟨_, a4, fun e => absurd e (by decide), fun e => absurd e (by decide), fun e => absurd e (by decide), fun e => absurd e (by decide), fun _ => t4, fun e => absurd e (by decide)⟩
  · exact ⟨_, a5, fun e => absurd e (by decide), fun e => absurd e (by decide), fun e => absurd e (by decide), fun e => absurd e (by decide), fun e => absurd e (by decide), fun _ => t5⟩
