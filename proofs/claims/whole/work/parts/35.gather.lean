/-! ===== the component gathers the doubts of a spot ===== -/
def ev (l : List Ev) (a : Nat) : Ev := (l[a]?).getD (1, 1, false)
theorem ev_at {l : List Ev} {a : Nat} (h : a < l.length) : l[a]? = some (ev l a) := by
  unfold ev
  rw [List.getElem?_eq_getElem h]
  rfl
theorem ev_mem {l : List Ev} {a : Nat} (h : a < l.length) : ev l a ∈ l := List.mem_of_getElem? (ev_at h)
theorem nrI_ev {l : List Ev} {a b : Nat} : nrI l a b ↔ a < l.length ∧ b < l.length ∧ nr (ev l a) (ev l b) := by
  constructor
  · intro h
    have hl := h.lt
    obtain ⟨e, f, h1, h2, h3⟩ := h
    rw [ev_at hl.1] at h1
    rw [ev_at hl.2] at h2
    cases h1
    cases h2
    exact ⟨hl.1, hl.2, h3⟩
  · intro h
    exact ⟨_, _, ev_at h.1, ev_at h.2.1, h.2.2⟩
def MC (p q : Nat → Int) (l : List Ev) (M : zMem) : Prop := M.1 38 5 = iI (l.length : Int) ∧ l.length ≤ 100 ∧ ∀ a, a < l.length → M.1 39 a = iI ((ev l a).1 : Int) ∧ M.1 40 a = iI ((ev l a).2.1 : Int) ∧ M.1 41 a = iI (bI (ev l a).2.2) ∧ M.1 42 a = iI (trn p (ev l a).1 q (ev l a).2.1)
theorem MC_fs {p q : Nat → Int} {l : List Ev} {M M' : zMem} {S : Nat → Nat → Prop} (h : MC p q l M) (hf : fs S M M') (h1 : ¬ S 38 5) (h2 : ∀ c k, 39 ≤ c → c ≤ 42 → ¬ S c k) : MC p q l M' := by
  refine ⟨(hf.2 _ _ h1).trans h.1, h.2.1, fun a ha => ?_⟩
  obtain ⟨x1, x2, x3, x4⟩ := h.2.2 a ha
  exact ⟨(hf.2 _ _ (h2 39 a (by omega) (by omega))).trans x1, (hf.2 _ _ (h2 40 a (by omega) (by omega))).trans x2, (hf.2 _ _ (h2 41 a (by omega) (by omega))).trans x3, (hf.2 _ _ (h2 42 a (by omega) (by omega))).trans x4⟩
theorem iI_abs {z : Int} (h1 : -2147483648 < z) (h2 : z < 2147483648) : (if (0 : Int32) ≤ iI z then iI z else 0 - iI z) = iI (max z (-z)) := by
  rw [iI_0, iI_sub]
  by_cases h : 0 ≤ z
  · rw [if_pos (by rw [iI_le (by omega) (by omega) (by omega) (by omega)]; exact h)]
    congr 1
    omega
  · rw [if_neg (by rw [iI_le (by omega) (by omega) (by omega) (by omega)]; exact h)]
    congr 1
    omega
theorem t_X3_hang {N a b : Nat} {p q : Nat → Int} {l : List Ev} {M : zMem} {Q : Int32 → zMem → Prop} (hM : MC p q l M) (hk : okL l) (ha : a < l.length) (hb : b < l.length) (hQ1 : nr (ev l a) (ev l b) → Q (iI 1) M) (hQ0 : ¬ nr (ev l a) (ev l b) → Q (iI 0) M) : f_X3_hangTogether N (iI a) (iI b) M Q := by
  unfold f_X3_hangTogether
  have hl := hM.2.1
  obtain ⟨a1, a2, a3, a4⟩ := hM.2.2 a ha
  obtain ⟨b1, b2, b3, b4⟩ := hM.2.2 b hb
  have oe := hk _ (ev_mem ha)
  have of := hk _ (ev_mem hb)
  have va : vp_in (iI (a : Int)) 101 := iI_in0 (by omega) (by omega) (by decide)
  have vb : vp_in (iI (b : Int)) 101 := iI_in0 (by omega) (by omega) (by decide)
  have rr : ∀ (c k : Nat), k < 2147483648 → zrd M c (iI (k : Int)) = M.1 c k := fun c k hk => by rw [zrd_iI (by omega) (by omega), show ((k : Int)).toNat = k by omega]
  simp only [rr _ a (by omega), rr _ b (by omega)]
  rw [a1, a2, a3, b1, b2, b3, bI_0, bI_0, iI_sub, iI_sub, iI_abs (by omega) (by omega), iI_abs (by omega) (by omega)]
  refine ⟨va, fun c => hQ0 (fun h => c h.1), fun c => ⟨vb, fun c2 => hQ0 (fun h => c2 h.2.1), fun c2 => ⟨va, vb, fun c3 => ?_, fun c3 => ⟨va, vb, fun c4 => ?_, fun c4 => ?_⟩⟩⟩⟩
  · simp (disch := omega) only [iI_m1, iI_0, iI_1, iI_2, iI_3, iI_4, iI_5, iI_6, iI_7, iI_8, iI_9, iI_10, iI_11, iI_12, iI_13, iI_16, iI_18, iI_20, iI_24, iI_31, iI_32, iI_33, iI_36, iI_48, iI_57, iI_59, iI_63, iI_64, iI_97, iI_100, iI_101, iI_130, iI_255, iI_256, iI_512, iI_1000, iI_1009, iI_2000, iI_2048, iI_32768, iI_2147483647, iI_add, iI_sub, iI_mul, iI_neg, iI_lt, iI_le, iI_eq, iI_in] at c3
    refine hQ0 (fun h => ?_)
    have := h.2.2
    omega
  · simp (disch := omega) only [iI_m1, iI_0, iI_1, iI_2, iI_3, iI_4, iI_5, iI_6, iI_7, iI_8, iI_9, iI_10, iI_11, iI_12, iI_13, iI_16, iI_18, iI_20, iI_24, iI_31, iI_32, iI_33, iI_36, iI_48, iI_57, iI_59, iI_63, iI_64, iI_97, iI_100, iI_101, iI_130, iI_255, iI_256, iI_512, iI_1000, iI_1009, iI_2000, iI_2048, iI_32768, iI_2147483647, iI_add, iI_sub, iI_mul, iI_neg, iI_lt, iI_le, iI_eq, iI_in] at c4
    refine hQ0 (fun h => ?_)
    have := h.2.2
    omega
  · simp (disch := omega) only [iI_m1, iI_0, iI_1, iI_2, iI_3, iI_4, iI_5, iI_6, iI_7, iI_8, iI_9, iI_10, iI_11, iI_12, iI_13, iI_16, iI_18, iI_20, iI_24, iI_31, iI_32, iI_33, iI_36, iI_48, iI_57, iI_59, iI_63, iI_64, iI_97, iI_100, iI_101, iI_130, iI_255, iI_256, iI_512, iI_1000, iI_1009, iI_2000, iI_2048, iI_32768, iI_2147483647, iI_add, iI_sub, iI_mul, iI_neg, iI_lt, iI_le, iI_eq, iI_in] at c3 c4
    exact hQ1 ⟨c, c2, by omega, by omega, by omega, by omega⟩
noncomputable def rep (l : List Ev) (a : Nat) : Nat := if h : a < l.length then Classical.choose (fst_ex l a h) else a
theorem rep_ok {l : List Ev} {a : Nat} (h : a < l.length) : rep l a ≤ a ∧ fst l (rep l a) ∧ Cn l (rep l a) a := by
  unfold rep
  rw [dif_pos h]
  exact Classical.choose_spec (fst_ex l a h)
theorem fst_un {l : List Ev} {a b : Nat} (ha : fst l a) (hb : fst l b) (h : Cn l a b) : a = b := by
  rcases Nat.lt_trichotomy a b with q | q | q
  · exact absurd h (hb a q)
  · exact q
  · exact absurd h.sy (ha b q)
theorem rep_cn {l : List Ev} {a b : Nat} (ha : a < l.length) (h : Cn l a b) : rep l a = rep l b :=
  fst_un (rep_ok ha).2.1 (rep_ok (h.lt ha)).2.1 ((rep_ok ha).2.2.tr (h.tr (rep_ok (h.lt ha)).2.2.sy))
theorem rep_fst {l : List Ev} {a : Nat} (ha : a < l.length) (h : fst l a) : rep l a = a := fst_un (rep_ok ha).2.1 h (rep_ok ha).2.2
theorem rep_sp (l : List Ev) : IsSp l (fun a => fc l (rep l a)) := by
  refine ⟨fun a ha hf => ?_, fun a b ha hb hc => ?_⟩
  · show fc l (rep l a) = _
    rw [rep_fst ha hf]
  · show fc l (rep l a) = fc l (rep l b)
    rw [rep_cn ha hc]
noncomputable def cnS (S : Nat → Prop) : Nat → Nat
  | 0 => 0
  | k + 1 => cnS S k + ifp (S k) 1 0
theorem cnS_y {S : Nat → Prop} {k : Nat} (h : S k) : cnS S (k + 1) = cnS S k + 1 := by
  rw [show cnS S (k + 1) = cnS S k + ifp (S k) 1 0 from rfl, ifp_t h]
theorem cnS_n {S : Nat → Prop} {k : Nat} (h : ¬ S k) : cnS S (k + 1) = cnS S k := by
  rw [show cnS S (k + 1) = cnS S k + ifp (S k) 1 0 from rfl, ifp_f h, Nat.add_zero]
theorem cnS_to {S T : Nat → Prop} : ∀ k, (∀ a, a < k → (S a ↔ T a)) → cnS S k = cnS T k := by
  intro k
  induction k with
  | zero => intro _; rfl
  | succ k ih =>
    intro h
    rcases Classical.em (S k) with q | q
    · rw [cnS_y q, cnS_y ((h k (by omega)).mp q), ih (fun a ha => h a (by omega))]
    · rw [cnS_n q, cnS_n (fun w => q ((h k (by omega)).mpr w)), ih (fun a ha => h a (by omega))]
theorem cnS_le (S : Nat → Prop) : ∀ k, cnS S k ≤ k := by
  intro k
  induction k with
  | zero => exact Nat.le_refl _
  | succ k ih =>
    rcases Classical.em (S k) with q | q
    · rw [cnS_y q]; omega
    · rw [cnS_n q]; omega
theorem cnS_add {S : Nat → Prop} {d : Nat} (hd : ¬ S d) : ∀ k, d < k → cnS (fun a => S a ∨ a = d) k = cnS S k + 1 := by
  intro k
  induction k with
  | zero => intro h; omega
  | succ k ih =>
    intro h
    by_cases hk : k = d
    · subst hk
      rw [cnS_y (S := fun a => S a ∨ a = k) (Or.inr rfl), cnS_n hd, cnS_to (T := S) k (fun a ha => ⟨fun w => w.resolve_right (by omega), fun w => Or.inl w⟩)]
    · rcases Classical.em (S k) with q | q
      · rw [cnS_y (S := fun a => S a ∨ a = d) (Or.inl q), cnS_y q, ih (by omega)]
      · rw [cnS_n (S := fun a => S a ∨ a = d) (fun w => w.elim q (fun w => hk w)), cnS_n q, ih (by omega)]
theorem cnS_lt {S : Nat → Prop} {d k : Nat} (hd : ¬ S d) (h : d < k) : cnS S k < k := by
  have h1 := cnS_add hd k h
  have h2 := cnS_le (fun a => S a ∨ a = d) k
  omega
theorem cnS_0 : ∀ k, cnS (fun _ => False) k = 0 := by
  intro k
  induction k with
  | zero => rfl
  | succ k ih => rw [cnS_n (S := fun _ => False) (fun h => h), ih]
def gSet (c _k : Nat) : Prop := c = 43 ∨ c = 45
def GS (l : List Ev) (c : Nat) (T : Nat → Prop) (m : Nat) (g : Nat → Nat) (M : zMem) : Prop :=
  (∀ a, a < l.length → M.1 43 a = iI (ifp (rep l a < c ∨ T a) (fc l (rep l a) : Int) (-1))) ∧ M.1 38 7 = iI (fc l c : Int) ∧ (∀ a, T a → a < l.length ∧ rep l a = c) ∧ m = cnS T l.length ∧ (∀ k, k < m → T (g k) ∧ M.1 45 k = iI (g k : Int)) ∧ (∀ a, T a → ∃ k, k < m ∧ g k = a) ∧ 0 < m ∧ g 0 = c
theorem l_X3_gather_48 {N c k : Nat} {p q : Nat → Int} {l : List Ev} {M0 : zMem} {k21 : Int32 → Int32 → zMem → Prop} {Q : Int32 → zMem → Prop} (h0 : MC p q l M0) (hk : okL l) (hc : c < l.length) (hK : ∀ T m g M, fs gSet M0 M → GS l c T m g M → k < m → (∀ k', k' < k + 1 → ∀ b, nrI l (g k') b → T b) → k21 (iI (m : Int)) (iI ((k : Int) + 1)) M) : ∀ (r f d : Nat) (T : Nat → Prop) (m : Nat) (g : Nat → Nat) (M : zMem), r + d = l.length → r + 1 ≤ f → fs gSet M0 M → GS l c T m g M → k < m → (∀ k', k' < k → ∀ b, nrI l (g k') b → T b) → (∀ b, b < d → nrI l (g k) b → T b) → f_X3_gather_l48 N k21 (iI c) (iI k) Q f (iI (m : Int)) (iI (d : Int)) M := by
  have hl := h0.2.1
  intro r
  induction r with
  | zero =>
    intro f d T m g M hd hf hf0 hG hkm h1 h2
    obtain ⟨f, rfl⟩ : ∃ g, f = g + 1 := ⟨f - 1, by omega⟩
    show f_X3_gather_b48 N k21 (f_X3_gather_l48 N k21 (iI c) (iI k) Q f) (iI c) (iI k) (iI (m : Int)) (iI (d : Int)) M Q
    unfold f_X3_gather_b48
    have h3 := MC_fs h0 hf0 (by unfold gSet; omega) (fun c k _ _ => by unfold gSet; omega)
    have hm := cnS_le T l.length
    rw [← hG.2.2.2.1] at hm
    rw [h3.1]
    refine ⟨fun _ v e => ?_, fun cc => ?_⟩
    · simp (disch := omega) only [iI_m1, iI_0, iI_1, iI_2, iI_3, iI_4, iI_5, iI_6, iI_7, iI_8, iI_9, iI_10, iI_11, iI_12, iI_13, iI_16, iI_18, iI_20, iI_24, iI_31, iI_32, iI_33, iI_36, iI_48, iI_57, iI_59, iI_63, iI_64, iI_97, iI_100, iI_101, iI_130, iI_255, iI_256, iI_512, iI_1000, iI_1009, iI_2000, iI_2048, iI_32768, iI_2147483647, iI_add, iI_sub, iI_mul, iI_neg, iI_lt, iI_le, iI_eq, iI_in] at e
      subst e
      refine hK T m g M hf0 hG hkm (fun k' hk' b hn => ?_)
      by_cases hkk : k' = k
      · subst hkk
        exact h2 b (by have := hn.lt; omega) hn
      · exact h1 k' (by omega) b hn
    · simp (disch := omega) only [iI_m1, iI_0, iI_1, iI_2, iI_3, iI_4, iI_5, iI_6, iI_7, iI_8, iI_9, iI_10, iI_11, iI_12, iI_13, iI_16, iI_18, iI_20, iI_24, iI_31, iI_32, iI_33, iI_36, iI_48, iI_57, iI_59, iI_63, iI_64, iI_97, iI_100, iI_101, iI_130, iI_255, iI_256, iI_512, iI_1000, iI_1009, iI_2000, iI_2048, iI_32768, iI_2147483647, iI_add, iI_sub, iI_mul, iI_neg, iI_lt, iI_le, iI_eq, iI_in] at cc
      omega
  | succ r ih =>
    intro f d T m g M hd hf hf0 hG hkm h1 h2
    obtain ⟨f, rfl⟩ : ∃ g, f = g + 1 := ⟨f - 1, by omega⟩
    show f_X3_gather_b48 N k21 (f_X3_gather_l48 N k21 (iI c) (iI k) Q f) (iI c) (iI k) (iI (m : Int)) (iI (d : Int)) M Q
    unfold f_X3_gather_b48
    have h3 := MC_fs h0 hf0 (by unfold gSet; omega) (fun c k _ _ => by unfold gSet; omega)
    have hm := cnS_le T l.length
    rw [← hG.2.2.2.1] at hm
    have hdl : d < l.length := by omega
    have vd : vp_in (iI (d : Int)) 101 := iI_in0 (by omega) (by omega) (by decide)
    have vk : vp_in (iI (k : Int)) 100 := iI_in0 (by omega) (by omega) (by decide)
    rw [h3.1]
    refine ⟨fun cc => ?_, fun _ => ⟨vd, ?_⟩⟩
    · simp (disch := omega) only [iI_m1, iI_0, iI_1, iI_2, iI_3, iI_4, iI_5, iI_6, iI_7, iI_8, iI_9, iI_10, iI_11, iI_12, iI_13, iI_16, iI_18, iI_20, iI_24, iI_31, iI_32, iI_33, iI_36, iI_48, iI_57, iI_59, iI_63, iI_64, iI_97, iI_100, iI_101, iI_130, iI_255, iI_256, iI_512, iI_1000, iI_1009, iI_2000, iI_2048, iI_32768, iI_2147483647, iI_add, iI_sub, iI_mul, iI_neg, iI_lt, iI_le, iI_eq, iI_in] at cc
      omega
    have go : ∀ T' m' g' M', fs gSet M0 M' → GS l c T' m' g' M' → k < m' → (∀ k', k' < k → ∀ b, nrI l (g' k') b → T' b) → (∀ b, b < d + 1 → nrI l (g' k) b → T' b) → f_X3_gather_b105 N k21 (f_X3_gather_l48 N k21 (iI c) (iI k) Q f) (iI c) (iI (m' : Int)) (iI k) (iI (d : Int)) M' Q := by
      intro T' m' g' M' q1 q2 q3 q4 q5
      unfold f_X3_gather_b105
      intro v e
      simp (disch := omega) only [iI_m1, iI_0, iI_1, iI_2, iI_3, iI_4, iI_5, iI_6, iI_7, iI_8, iI_9, iI_10, iI_11, iI_12, iI_13, iI_16, iI_18, iI_20, iI_24, iI_31, iI_32, iI_33, iI_36, iI_48, iI_57, iI_59, iI_63, iI_64, iI_97, iI_100, iI_101, iI_130, iI_255, iI_256, iI_512, iI_1000, iI_1009, iI_2000, iI_2048, iI_32768, iI_2147483647, iI_add, iI_sub, iI_mul, iI_neg, iI_lt, iI_le, iI_eq, iI_in] at e
      subst e
      exact ih f (d + 1) T' m' g' M' (by omega) (by omega) q1 q2 q3 q4 q5
    obtain ⟨g1, g2, g3, g4, g5, g6, g7, g8⟩ := hG
    have hgk := g3 _ (g5 k hkm).1
    have hfd := fc_le l (rep l d)
    have hrd := (rep_ok hdl).1
    have key : zrd M 43 (iI (d : Int)) = (-1 : Int32) ↔ ¬ (rep l d < c ∨ T d) := by
      rw [zrd_iI (by omega) (by omega), show ((d : Int)).toNat = d by omega, g1 d hdl, iI_m1]
      rcases Classical.em (rep l d < c ∨ T d) with q | q
      · rw [ifp_t q, iI_eq (by omega) (by omega) (by omega) (by omega)]
        exact ⟨fun w => by omega, fun w => absurd q w⟩
      · rw [ifp_f q]
        exact ⟨fun _ => q, fun _ => rfl⟩
    have nxt : (nrI l (g k) d → T d) → f_X3_gather_b105 N k21 (f_X3_gather_l48 N k21 (iI c) (iI k) Q f) (iI c) (iI (m : Int)) (iI k) (iI (d : Int)) M Q := by
      intro hn
      refine go T m g M hf0 ⟨g1, g2, g3, g4, g5, g6, g7, g8⟩ hkm h1 (fun b hb hnb => ?_)
      by_cases hbd : b = d
      · subst hbd; exact hn hnb
      · exact h2 b (by omega) hnb
    refine ⟨fun w => nxt (fun hn => ?_), fun w => ⟨vk, ?_⟩⟩
    · rcases Classical.em (rep l d < c ∨ T d) with q | q
      · rcases q with q | q
        · have := rep_cn hgk.1 (Cn.st hn)
          omega
        · exact q
      · exact absurd (key.mpr q) w
    · have hnd := key.mp w
      rw [zrd_iI (by omega) (by omega), show ((k : Int)).toNat = k by omega, (g5 k hkm).2]
      refine t_X3_hang h3 hk hgk.1 hdl (fun hn => ?_) (fun hn => ?_)
      · refine ⟨fun e => absurd e (by decide), fun _ => ⟨vd, fun M8 e8 => ?_⟩⟩
        have hnI : nrI l (g k) d := nrI_ev.mpr ⟨hgk.1, hdl, hn⟩
        have hrep : rep l d = c := by rw [← rep_cn hgk.1 (Cn.st hnI)]; exact hgk.2
        have hTd : ¬ T d := fun w => hnd (Or.inr w)
        have hmlt : m < l.length := by rw [g4]; exact cnS_lt hTd hdl
        refine ⟨iI_in0 (by omega) (by omega) (by decide), fun M9 e9 v ev9 => ?_⟩
        rw [g2, zst_iI (by omega) (by omega), show ((d : Int)).toNat = d by omega] at e8
        rw [zst_iI (by omega) (by omega), show ((m : Int)).toNat = m by omega] at e9
        simp (disch := omega) only [iI_m1, iI_0, iI_1, iI_2, iI_3, iI_4, iI_5, iI_6, iI_7, iI_8, iI_9, iI_10, iI_11, iI_12, iI_13, iI_16, iI_18, iI_20, iI_24, iI_31, iI_32, iI_33, iI_36, iI_48, iI_57, iI_59, iI_63, iI_64, iI_97, iI_100, iI_101, iI_130, iI_255, iI_256, iI_512, iI_1000, iI_1009, iI_2000, iI_2048, iI_32768, iI_2147483647, iI_add, iI_sub, iI_mul, iI_neg, iI_lt, iI_le, iI_eq, iI_in] at ev9
        subst ev9
        have x43 : ∀ a, a ≠ d → M9.1 43 a = M.1 43 a := fun a had => by subst e8; subst e9; rw [zwI_1, if_neg (by omega), zwI_1, if_neg (by omega)]
        have x43d : M9.1 43 d = iI (fc l c : Int) := by subst e8; subst e9; rw [zwI_1, if_neg (by omega), zwI_1, if_pos ⟨rfl, rfl⟩]
        have x45 : ∀ a, a ≠ m → M9.1 45 a = M.1 45 a := fun a had => by subst e8; subst e9; rw [zwI_1, if_neg (by omega), zwI_1, if_neg (by omega)]
        have x45m : M9.1 45 m = iI (d : Int) := by subst e8; subst e9; rw [zwI_1, if_pos ⟨rfl, rfl⟩]
        have x38 : M9.1 38 7 = M.1 38 7 := by subst e8; subst e9; rw [zwI_1, if_neg (by omega), zwI_1, if_neg (by omega)]
        have f9 : fs gSet M M9 := by subst e8; subst e9; exact (fs_wI (Or.inl rfl)).tr (fs_wI (Or.inr rfl))
        refine go (fun a => T a ∨ a = d) (m + 1) (upL g m d) M9 (hf0.tr f9) ⟨?_, x38.trans g2, ?_, ?_, ?_, ?_, by omega, ?_⟩ (by omega) (fun k' hk' b hb => ?_) (fun b hb hnb => ?_)
        · intro a ha
          by_cases had : a = d
          · subst had
            rw [x43d, ifp_t (Or.inr (Or.inr rfl)), hrep]
          · rw [x43 a had, g1 a ha]
            rw [show (rep l a < c ∨ T a) = (rep l a < c ∨ T a ∨ a = d) from propext ⟨fun w => w.elim Or.inl (fun w => Or.inr (Or.inl w)), fun w => w.elim Or.inl (fun w => w.elim Or.inr (fun w => absurd w had))⟩]
        · intro a ha
          rcases ha with ha | ha
          · exact g3 a ha
          · subst ha; exact ⟨hdl, hrep⟩
        · rw [g4]; exact (cnS_add hTd l.length hdl).symm
        · intro k' hk'
          by_cases hkm' : k' = m
          · subst hkm'
            rw [upL_1]
            exact ⟨Or.inr rfl, x45m⟩
          · rw [upL_2 hkm', x45 k' hkm']
            exact ⟨Or.inl (g5 k' (by omega)).1, (g5 k' (by omega)).2⟩
        · intro a ha
          rcases ha with ha | ha
          · obtain ⟨k', k1, k2⟩ := g6 a ha
            exact ⟨k', by omega, by rw [upL_2 (by omega)]; exact k2⟩
          · exact ⟨m, by omega, by rw [upL_1]; exact ha.symm⟩
        · rw [upL_2 (by omega)]; exact g8
        · rw [upL_2 (by omega)] at hb
          exact Or.inl (h1 k' hk' b hb)
        · rw [upL_2 (by omega)] at hnb
          by_cases hbd : b = d
          · exact Or.inr hbd
          · exact Or.inl (h2 b (by omega) hnb)
      · exact ⟨fun _ => nxt (fun h => absurd (nrI_ev.mp h).2.2 hn), fun e => absurd rfl e⟩
theorem l_X3_gather_21 {N c : Nat} {p q : Nat → Int} {l : List Ev} {M0 : zMem} {Q : Int32 → zMem → Prop} (hN : 300 ≤ N) (h0 : MC p q l M0) (hk : okL l) (hc : c < l.length) (hfc : fst l c) (hQ : ∀ m g M, fs gSet M0 M → GS l c (fun a => a < l.length ∧ rep l a = c) m g M → Q (iI (m : Int)) M) : ∀ (r f k : Nat) (T : Nat → Prop) (m : Nat) (g : Nat → Nat) (M : zMem), r + k = 101 → r + 1 ≤ f → k ≤ m → fs gSet M0 M → GS l c T m g M → (∀ k', k' < k → ∀ b, nrI l (g k') b → T b) → f_X3_gather_l21 N (iI c) Q f (iI (m : Int)) (iI (k : Int)) M := by
  have hl := h0.2.1
  intro r
  induction r with
  | zero =>
    intro f k T m g M hr hf hkm hf0 hG h1
    have hm := cnS_le T l.length
    rw [← hG.2.2.2.1] at hm
    omega
  | succ r ih =>
    intro f k T m g M hr hf hkm hf0 hG h1
    obtain ⟨f, rfl⟩ : ∃ g, f = g + 1 := ⟨f - 1, by omega⟩
    show f_X3_gather_b21 N (f_X3_gather_l21 N (iI c) Q f) (iI c) (iI (m : Int)) (iI (k : Int)) M Q
    unfold f_X3_gather_b21
    have h3 := MC_fs h0 hf0 (by unfold gSet; omega) (fun c k _ _ => by unfold gSet; omega)
    have hm := cnS_le T l.length
    rw [← hG.2.2.2.1] at hm
    have hGc := hG
    obtain ⟨g1, g2, g3, g4, g5, g6, g7, g8⟩ := hGc
    have hTc : T c := by rw [← g8]; exact (g5 0 g7).1
    have fin : (∀ a b, T a → nrI l a b → T b) → Q (iI (m : Int)) M := by
      intro hcl
      have hTT : ∀ a, T a ↔ (a < l.length ∧ rep l a = c) := by
        intro a
        refine ⟨fun h => g3 a h, fun h => ?_⟩
        have hca : Cn l c a := by rw [← h.2]; exact (rep_ok h.1).2.2
        exact hca T hTc hcl
      have : T = (fun a => a < l.length ∧ rep l a = c) := funext (fun a => propext (hTT a))
      rw [this] at hG
      exact hQ m g M hf0 hG
    rw [h3.1]
    refine ⟨fun c0 => ?_, fun _ => ⟨fun cc => ?_, fun cc => ⟨iI_in0 (by omega) (by omega) (by decide), ?_⟩⟩⟩
    · simp (disch := omega) only [iI_m1, iI_0, iI_1, iI_2, iI_3, iI_4, iI_5, iI_6, iI_7, iI_8, iI_9, iI_10, iI_11, iI_12, iI_13, iI_16, iI_18, iI_20, iI_24, iI_31, iI_32, iI_33, iI_36, iI_48, iI_57, iI_59, iI_63, iI_64, iI_97, iI_100, iI_101, iI_130, iI_255, iI_256, iI_512, iI_1000, iI_1009, iI_2000, iI_2048, iI_32768, iI_2147483647, iI_add, iI_sub, iI_mul, iI_neg, iI_lt, iI_le, iI_eq, iI_in] at c0
      refine fin (fun a b ha hn => ?_)
      obtain ⟨k', k1, k2⟩ := g6 a ha
      exact h1 k' (by omega) b (by rw [k2]; exact hn)
    · simp (disch := omega) only [iI_m1, iI_0, iI_1, iI_2, iI_3, iI_4, iI_5, iI_6, iI_7, iI_8, iI_9, iI_10, iI_11, iI_12, iI_13, iI_16, iI_18, iI_20, iI_24, iI_31, iI_32, iI_33, iI_36, iI_48, iI_57, iI_59, iI_63, iI_64, iI_97, iI_100, iI_101, iI_130, iI_255, iI_256, iI_512, iI_1000, iI_1009, iI_2000, iI_2048, iI_32768, iI_2147483647, iI_add, iI_sub, iI_mul, iI_neg, iI_lt, iI_le, iI_eq, iI_in] at cc
      refine fin (fun a b ha hn => ?_)
      obtain ⟨k', k1, k2⟩ := g6 a ha
      exact h1 k' (by omega) b (by rw [k2]; exact hn)
    · simp (disch := omega) only [iI_m1, iI_0, iI_1, iI_2, iI_3, iI_4, iI_5, iI_6, iI_7, iI_8, iI_9, iI_10, iI_11, iI_12, iI_13, iI_16, iI_18, iI_20, iI_24, iI_31, iI_32, iI_33, iI_36, iI_48, iI_57, iI_59, iI_63, iI_64, iI_97, iI_100, iI_101, iI_130, iI_255, iI_256, iI_512, iI_1000, iI_1009, iI_2000, iI_2048, iI_32768, iI_2147483647, iI_add, iI_sub, iI_mul, iI_neg, iI_lt, iI_le, iI_eq, iI_in] at cc
      rw [zrd_iI (by omega) (by omega), show ((c : Int)).toNat = c by omega, (h3.2.2 c hc).2.2.1]
      refine ⟨fun w => ?_, fun w v e => ?_⟩
      · refine fin (fun a b ha hn => ?_)
        have hcb : ∀ b, Cn l c b → b = c := by
          intro b hb
          refine hb (fun x => x = c) rfl (fun x y hx hxy => ?_)
          subst hx
          exact absurd ((bI_0 _).mpr (nrI_ev.mp hxy).2.2.1) w
        have hca : a = c := by
          have h := g3 a ha
          exact hcb a (by rw [← h.2]; exact (rep_ok h.1).2.2)
        subst hca
        exact absurd ((bI_0 _).mpr (nrI_ev.mp hn).2.2.1) w
      · simp (disch := omega) only [iI_m1, iI_0, iI_1, iI_2, iI_3, iI_4, iI_5, iI_6, iI_7, iI_8, iI_9, iI_10, iI_11, iI_12, iI_13, iI_16, iI_18, iI_20, iI_24, iI_31, iI_32, iI_33, iI_36, iI_48, iI_57, iI_59, iI_63, iI_64, iI_97, iI_100, iI_101, iI_130, iI_255, iI_256, iI_512, iI_1000, iI_1009, iI_2000, iI_2048, iI_32768, iI_2147483647, iI_add, iI_sub, iI_mul, iI_neg, iI_lt, iI_le, iI_eq, iI_in] at e
        subst e
        refine l_X3_gather_48 (k := k) h0 hk hc ?_ (l.length - (c + 1)) N (c + 1) T m g M (by omega) (by omega) hf0 hG (by omega) h1 ?_
        · intro T' m' g' M' q1 q2 q3 q4
          exact ih f (k + 1) T' m' g' M' (by omega) (by omega) (by omega) q1 q2 q4
        · intro b hb hn
          have hgk := g3 _ (g5 k (by omega)).1
          by_cases hbc : b = c
          · subst hbc; exact hTc
          · exfalso
            have h5 := rep_cn hgk.1 (Cn.st hn)
            have h6 := (rep_ok (show b < l.length by omega)).1
            omega
/-- what stands in spotOf when the loop is at c -/
def SO (l : List Ev) (c : Nat) (M : zMem) : Prop := (∀ a, a < l.length → M.1 43 a = iI (ifp (rep l a < c) (fc l (rep l a) : Int) (-1))) ∧ M.1 38 7 = iI (fc l c : Int)
theorem t_X3_gather {N c : Nat} {p q : Nat → Int} {l : List Ev} {M : zMem} {Q : Int32 → zMem → Prop} (hN : 300 ≤ N) (h0 : MC p q l M) (hk : okL l) (hc : c < l.length) (hfc : fst l c) (hS : SO l c M) (hQ : ∀ m g M', fs gSet M M' → GS l c (fun a => a < l.length ∧ rep l a = c) m g M' → Q (iI (m : Int)) M') : f_X3_gather N (iI c) M Q := by
  unfold f_X3_gather
  have hl := h0.2.1
  refine ⟨iI_in0 (by omega) (by omega) (by decide), fun M1 e1 => ⟨iI_in0 (z := 0) (by decide) (by decide) (by decide), fun M2 e2 => ?_⟩⟩
  rw [hS.2, zst_iI (by omega) (by omega), show ((c : Int)).toNat = c by omega] at e1
  rw [iI_0, zst_iI (by omega) (by omega), show ((0 : Int)).toNat = 0 by omega] at e2
  have f2 : fs gSet M M2 := by subst e1; subst e2; exact (fs_wI (Or.inl rfl)).tr (fs_wI (Or.inr rfl))
  have hrc := rep_fst hc hfc
  refine l_X3_gather_21 (M0 := M) hN h0 hk hc hfc hQ 101 N 0 (fun a => a = c) 1 (fun _ => c) M2 (by omega) (by omega) (by omega) f2 ⟨?_, ?_, ?_, ?_, ?_, ?_, by decide, rfl⟩ (fun k' h => by omega)
  · intro a ha
    by_cases hac : a = c
    · subst hac
      rw [ifp_t (Or.inr rfl), hrc]
      subst e1; subst e2
      rw [zwI_1, if_neg (by omega), zwI_1, if_pos ⟨rfl, rfl⟩]
    · rw [show (rep l a < c ∨ a = c) = (rep l a < c) from propext ⟨fun w => w.resolve_right hac, fun w => Or.inl w⟩, ← hS.1 a ha]
      subst e1; subst e2
      rw [zwI_1, if_neg (by omega), zwI_1, if_neg (by omega)]
  · subst e1; subst e2
    rw [zwI_1, if_neg (by omega), zwI_1, if_neg (by omega)]
    exact hS.2
  · intro a ha
    subst ha
    exact ⟨hc, hrc⟩
  · have h5 := cnS_add (S := fun _ => False) (d := c) (fun h => h) l.length hc
    rw [cnS_0] at h5
    rw [← h5.trans (Nat.zero_add 1)]
    exact cnS_to l.length (fun a ha => ⟨fun w => w.resolve_left (fun h => h), fun w => Or.inr w⟩)
  · intro k hk2
    obtain rfl : k = 0 := by omega
    refine ⟨rfl, ?_⟩
    subst e1; subst e2
    rw [zwI_1, if_pos ⟨rfl, rfl⟩]
  · intro a ha
    exact ⟨0, by decide, ha.symm⟩
