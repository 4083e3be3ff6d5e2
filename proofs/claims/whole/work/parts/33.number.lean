/-! ===== the reference's labels: each sinks to the least of those it hangs together with ===== -/
def LB (l : List Ev) (lab : Nat → Nat) (M : zMem) : Prop := ∀ a, a < l.length → M.1 60 a = iI (lab a : Int) ∧ lab a ≤ a ∧ Cn l (lab a) a
def smL (lab : Nat → Nat) : Nat → Nat
  | 0 => 0
  | k + 1 => smL lab k + lab k
def upL (lab : Nat → Nat) (a v : Nat) : Nat → Nat := fun x => if x = a then v else lab x
theorem upL_1 {lab : Nat → Nat} {a v : Nat} : upL lab a v a = v := by unfold upL; rw [if_pos rfl]
theorem upL_2 {lab : Nat → Nat} {a v x : Nat} (h : x ≠ a) : upL lab a v x = lab x := by unfold upL; rw [if_neg h]
theorem smL_0 {lab : Nat → Nat} {a v : Nat} : ∀ k, k ≤ a → smL (upL lab a v) k = smL lab k := by
  intro k
  induction k with
  | zero => intro _; rfl
  | succ k ih =>
    intro h
    show smL (upL lab a v) k + upL lab a v k = smL lab k + lab k
    rw [ih (by omega), upL_2 (by omega)]
theorem smL_up {lab : Nat → Nat} {a v : Nat} (h : v < lab a) : ∀ k, a < k → smL (upL lab a v) k < smL lab k := by
  intro k
  induction k with
  | zero => intro h; omega
  | succ k ih =>
    intro h1
    show smL (upL lab a v) k + upL lab a v k < smL lab k + lab k
    by_cases hk : k = a
    · subst hk
      rw [smL_0 k (Nat.le_refl _), upL_1]
      omega
    · have := ih (by omega)
      rw [upL_2 hk]
      omega
theorem smL_le {lab : Nat → Nat} : ∀ k, (∀ a, a < k → lab a ≤ 99) → smL lab k ≤ 99 * k := by
  intro k
  induction k with
  | zero => intro _; exact Nat.le_refl _
  | succ k ih =>
    intro h
    show smL lab k + lab k ≤ _
    have := ih (fun a ha => h a (by omega))
    have := h k (by omega)
    omega
def s60 (c k : Nat) : Prop := c = 60 ∨ (c = 47 ∧ k = 24)
theorem MR3_s60 {l : List Ev} {M M' : zMem} (h : MR3 l M) (hf : fs s60 M M') : MR3 l M' := h.fs hf (by unfold s60; omega) (fun c k a b => by unfold s60; omega)
def PIv (l : List Ev) (M0 : zMem) (s0 : Nat) (x1 : Int32) (c d : Nat) (M : zMem) : Prop := fs s60 M0 M ∧ ∃ lab, LB l lab M ∧ ((x1 = iI 0 ∧ (∀ a b, (a < c ∨ (a = c ∧ b < d)) → nrI l a b → lab a ≤ lab b) ∧ smL lab l.length ≤ s0) ∨ (x1 = iI 1 ∧ smL lab l.length < s0))
theorem l_X8_laysSpots_20 {N c s0 : Nat} {l : List Ev} {M0 : zMem} {k2 : Int32 → zMem → Prop} {k10 : Int32 → Int32 → zMem → Prop} {Q : zMem → Prop} (h0 : MR3 l M0) (hk : okL l) (hc : c < l.length) (hK : ∀ x1 M, PIv l M0 s0 x1 (c + 1) 0 M → k10 x1 (iI ((c : Int) + 1)) M) : ∀ (r f d : Nat) (x1 : Int32) (M : zMem), r + d = l.length → r + 1 ≤ f → PIv l M0 s0 x1 c d M → f_X8_laysSpots_l20 N k2 k10 (iI c) Q f x1 (iI (d : Int)) M := by
  have hl := h0.2.1
  intro r
  induction r with
  | zero =>
    intro f d x1 M hd hf hP
    obtain ⟨f, rfl⟩ : ∃ g, f = g + 1 := ⟨f - 1, by omega⟩
    show f_X8_laysSpots_b20 N k2 k10 (f_X8_laysSpots_l20 N k2 k10 (iI c) Q f) (iI c) x1 (iI (d : Int)) M Q
    unfold f_X8_laysSpots_b20
    have h3 := MR3_s60 h0 hP.1
    rw [h3.1]
    refine ⟨fun _ v g => ?_, fun cc => ?_⟩
    · simp (disch := omega) only [iI_m1, iI_0, iI_1, iI_2, iI_3, iI_4, iI_5, iI_6, iI_7, iI_8, iI_9, iI_10, iI_11, iI_12, iI_13, iI_16, iI_18, iI_20, iI_24, iI_31, iI_32, iI_33, iI_36, iI_48, iI_57, iI_59, iI_63, iI_64, iI_97, iI_100, iI_101, iI_130, iI_255, iI_256, iI_512, iI_1000, iI_1009, iI_2000, iI_2048, iI_32768, iI_2147483647, iI_add, iI_sub, iI_mul, iI_neg, iI_lt, iI_le, iI_eq, iI_in] at g
      subst g
      refine hK x1 M ⟨hP.1, ?_⟩
      obtain ⟨lab, a1, a2⟩ := hP.2
      refine ⟨lab, a1, ?_⟩
      rcases a2 with a2 | a2
      · refine Or.inl ⟨a2.1, fun a b hab hn => a2.2.1 a b ?_ hn, a2.2.2⟩
        have := hn.lt
        omega
      · exact Or.inr a2
    · simp (disch := omega) only [iI_m1, iI_0, iI_1, iI_2, iI_3, iI_4, iI_5, iI_6, iI_7, iI_8, iI_9, iI_10, iI_11, iI_12, iI_13, iI_16, iI_18, iI_20, iI_24, iI_31, iI_32, iI_33, iI_36, iI_48, iI_57, iI_59, iI_63, iI_64, iI_97, iI_100, iI_101, iI_130, iI_255, iI_256, iI_512, iI_1000, iI_1009, iI_2000, iI_2048, iI_32768, iI_2147483647, iI_add, iI_sub, iI_mul, iI_neg, iI_lt, iI_le, iI_eq, iI_in] at cc
      omega
  | succ r ih =>
    intro f d x1 M hd hf hP
    obtain ⟨f, rfl⟩ : ∃ g, f = g + 1 := ⟨f - 1, by omega⟩
    show f_X8_laysSpots_b20 N k2 k10 (f_X8_laysSpots_l20 N k2 k10 (iI c) Q f) (iI c) x1 (iI (d : Int)) M Q
    unfold f_X8_laysSpots_b20
    have h3 := MR3_s60 h0 hP.1
    rw [h3.1]
    have hdl : d < l.length := by omega
    obtain ⟨e, he⟩ : ∃ e, l[c]? = some e := ⟨_, List.getElem?_eq_getElem hc⟩
    obtain ⟨g, hg⟩ : ∃ e, l[d]? = some e := ⟨_, List.getElem?_eq_getElem hdl⟩
    refine ⟨fun cc => ?_, fun _ => ?_⟩
    · simp (disch := omega) only [iI_m1, iI_0, iI_1, iI_2, iI_3, iI_4, iI_5, iI_6, iI_7, iI_8, iI_9, iI_10, iI_11, iI_12, iI_13, iI_16, iI_18, iI_20, iI_24, iI_31, iI_32, iI_33, iI_36, iI_48, iI_57, iI_59, iI_63, iI_64, iI_97, iI_100, iI_101, iI_130, iI_255, iI_256, iI_512, iI_1000, iI_1009, iI_2000, iI_2048, iI_32768, iI_2147483647, iI_add, iI_sub, iI_mul, iI_neg, iI_lt, iI_le, iI_eq, iI_in] at cc
      omega
    have go : ∀ x1' M', PIv l M0 s0 x1' c (d + 1) M' → f_X8_laysSpots_b66 N k2 k10 (f_X8_laysSpots_l20 N k2 k10 (iI c) Q f) x1' (iI c) (iI d) M' Q := by
      intro x1' M' hP'
      unfold f_X8_laysSpots_b66
      intro v g
      simp (disch := omega) only [iI_m1, iI_0, iI_1, iI_2, iI_3, iI_4, iI_5, iI_6, iI_7, iI_8, iI_9, iI_10, iI_11, iI_12, iI_13, iI_16, iI_18, iI_20, iI_24, iI_31, iI_32, iI_33, iI_36, iI_48, iI_57, iI_59, iI_63, iI_64, iI_97, iI_100, iI_101, iI_130, iI_255, iI_256, iI_512, iI_1000, iI_1009, iI_2000, iI_2048, iI_32768, iI_2147483647, iI_add, iI_sub, iI_mul, iI_neg, iI_lt, iI_le, iI_eq, iI_in] at g
      subst g
      exact ih f (d + 1) x1' M' (by omega) (by omega) hP'
    obtain ⟨hf0, lab, a1, a2⟩ := hP
    have vc : vp_in (iI (c : Int)) 100 := iI_in0 (by omega) (by omega) (by decide)
    have vd : vp_in (iI (d : Int)) 100 := iI_in0 (by omega) (by omega) (by decide)
    refine t_X8_areNear h3 hk he hg (fun hn => ?_) (fun hn => ?_)
    · refine ⟨fun e => absurd e (by decide), fun _ => ⟨vd, vc, ?_⟩⟩
      have bc := a1 c hc
      have bd := a1 d hdl
      rw [zrd_iI (by omega) (by omega), zrd_iI (by omega) (by omega), show ((c : Int)).toNat = c by omega, show ((d : Int)).toNat = d by omega, bc.1, bd.1]
      refine ⟨fun q => ?_, fun q => ⟨vd, vc, fun M1 g1 => ?_⟩⟩
      · simp (disch := omega) only [iI_m1, iI_0, iI_1, iI_2, iI_3, iI_4, iI_5, iI_6, iI_7, iI_8, iI_9, iI_10, iI_11, iI_12, iI_13, iI_16, iI_18, iI_20, iI_24, iI_31, iI_32, iI_33, iI_36, iI_48, iI_57, iI_59, iI_63, iI_64, iI_97, iI_100, iI_101, iI_130, iI_255, iI_256, iI_512, iI_1000, iI_1009, iI_2000, iI_2048, iI_32768, iI_2147483647, iI_add, iI_sub, iI_mul, iI_neg, iI_lt, iI_le, iI_eq, iI_in] at q
        refine go x1 M ⟨hf0, lab, a1, ?_⟩
        rcases a2 with a2 | a2
        · refine Or.inl ⟨a2.1, fun a b hab hn2 => ?_, a2.2.2⟩
          by_cases hab2 : a = c ∧ b = d
          · rw [hab2.1, hab2.2]; omega
          · exact a2.2.1 a b (by omega) hn2
        · exact Or.inr a2
      · simp (disch := omega) only [iI_m1, iI_0, iI_1, iI_2, iI_3, iI_4, iI_5, iI_6, iI_7, iI_8, iI_9, iI_10, iI_11, iI_12, iI_13, iI_16, iI_18, iI_20, iI_24, iI_31, iI_32, iI_33, iI_36, iI_48, iI_57, iI_59, iI_63, iI_64, iI_97, iI_100, iI_101, iI_130, iI_255, iI_256, iI_512, iI_1000, iI_1009, iI_2000, iI_2048, iI_32768, iI_2147483647, iI_add, iI_sub, iI_mul, iI_neg, iI_lt, iI_le, iI_eq, iI_in] at q
        rw [zst_iI (by omega) (by omega), show ((c : Int)).toNat = c by omega] at g1
        refine go (iI 1) M1 ⟨hf0.tr (by subst g1; exact fs_wI (Or.inl rfl)), upL lab c (lab d), ?_, Or.inr ⟨rfl, ?_⟩⟩
        · intro a ha
          by_cases hac : a = c
          · subst hac
            rw [upL_1]
            refine ⟨by subst g1; rw [zwI_1, if_pos ⟨rfl, rfl⟩], by omega, bd.2.2.tr (Cn.st ?_)⟩
            exact ⟨g, e, hg, he, hn.sy⟩
          · rw [upL_2 hac]
            refine ⟨?_, (a1 a ha).2⟩
            subst g1
            rw [zwI_1, if_neg (by omega)]
            exact (a1 a ha).1
        · have := smL_up (lab := lab) (a := c) (v := lab d) (by omega) l.length hc
          omega
    · refine ⟨fun _ => go x1 M ⟨hf0, lab, a1, ?_⟩, fun e => absurd rfl e⟩
      rcases a2 with a2 | a2
      · refine Or.inl ⟨a2.1, fun a b hab hn2 => ?_, a2.2.2⟩
        by_cases hab2 : a = c ∧ b = d
        · obtain ⟨e', f', h1, h2, h3⟩ := hn2
          rw [hab2.1, he] at h1
          rw [hab2.2, hg] at h2
          cases h1
          cases h2
          exact absurd h3 hn
        · exact a2.2.1 a b (by omega) hn2
      · exact Or.inr a2
theorem l_X8_laysSpots_10 {N s0 : Nat} {l : List Ev} {M0 : zMem} {k2 : Int32 → zMem → Prop} {Q : zMem → Prop} (hN : 102 ≤ N) (h0 : MR3 l M0) (hk : okL l) (hK : ∀ x1 M, PIv l M0 s0 x1 l.length 0 M → k2 x1 M) : ∀ (r f c : Nat) (x1 : Int32) (M : zMem), r + c = l.length → r + 1 ≤ f → PIv l M0 s0 x1 c 0 M → f_X8_laysSpots_l10 N k2 Q f x1 (iI (c : Int)) M := by
  have hl := h0.2.1
  intro r
  induction r with
  | zero =>
    intro f c x1 M hd hf hP
    obtain ⟨f, rfl⟩ : ∃ g, f = g + 1 := ⟨f - 1, by omega⟩
    show f_X8_laysSpots_b10 N k2 (f_X8_laysSpots_l10 N k2 Q f) x1 (iI (c : Int)) M Q
    unfold f_X8_laysSpots_b10
    have h3 := MR3_s60 h0 hP.1
    rw [h3.1]
    refine ⟨fun _ => ?_, fun cc => ?_⟩
    · rw [show c = l.length by omega] at hP
      exact hK x1 M hP
    · simp (disch := omega) only [iI_m1, iI_0, iI_1, iI_2, iI_3, iI_4, iI_5, iI_6, iI_7, iI_8, iI_9, iI_10, iI_11, iI_12, iI_13, iI_16, iI_18, iI_20, iI_24, iI_31, iI_32, iI_33, iI_36, iI_48, iI_57, iI_59, iI_63, iI_64, iI_97, iI_100, iI_101, iI_130, iI_255, iI_256, iI_512, iI_1000, iI_1009, iI_2000, iI_2048, iI_32768, iI_2147483647, iI_add, iI_sub, iI_mul, iI_neg, iI_lt, iI_le, iI_eq, iI_in] at cc
      omega
  | succ r ih =>
    intro f c x1 M hd hf hP
    obtain ⟨f, rfl⟩ : ∃ g, f = g + 1 := ⟨f - 1, by omega⟩
    show f_X8_laysSpots_b10 N k2 (f_X8_laysSpots_l10 N k2 Q f) x1 (iI (c : Int)) M Q
    unfold f_X8_laysSpots_b10
    have h3 := MR3_s60 h0 hP.1
    rw [h3.1]
    refine ⟨fun cc => ?_, fun _ => ?_⟩
    · simp (disch := omega) only [iI_m1, iI_0, iI_1, iI_2, iI_3, iI_4, iI_5, iI_6, iI_7, iI_8, iI_9, iI_10, iI_11, iI_12, iI_13, iI_16, iI_18, iI_20, iI_24, iI_31, iI_32, iI_33, iI_36, iI_48, iI_57, iI_59, iI_63, iI_64, iI_97, iI_100, iI_101, iI_130, iI_255, iI_256, iI_512, iI_1000, iI_1009, iI_2000, iI_2048, iI_32768, iI_2147483647, iI_add, iI_sub, iI_mul, iI_neg, iI_lt, iI_le, iI_eq, iI_in] at cc
      omega
    · exact l_X8_laysSpots_20 h0 hk (by omega) (fun x1' M' hP' => ih f (c + 1) x1' M' (by omega) (by omega) hP') l.length N 0 x1 M (by omega) (by omega) hP
theorem l_X8_laysSpots_2 {N : Nat} {l : List Ev} {M0 : zMem} {Q : zMem → Prop} (hN : 102 ≤ N) (h0 : MR3 l M0) (hk : okL l) (hK : ∀ M lab, fs s60 M0 M → LB l lab M → (∀ a b, nrI l a b → lab a ≤ lab b) → ∀ M1 : zMem, M1 = zwI M 47 24 (0 : Int32) → f_X8_laysSpots_l88 N Q N (0 : Int32) M1) : ∀ (s f : Nat) (lab : Nat → Nat) (M : zMem), smL lab l.length ≤ s → s + 2 ≤ f → fs s60 M0 M → LB l lab M → f_X8_laysSpots_l2 N Q f (iI 1) M := by
  intro s
  induction s with
  | zero =>
    intro f lab M hs hf hf0 hL
    obtain ⟨f, rfl⟩ : ∃ g, f = g + 2 := ⟨f - 2, by omega⟩
    show f_X8_laysSpots_b2 N (f_X8_laysSpots_l2 N Q (f + 1)) (iI 1) M Q
    unfold f_X8_laysSpots_b2
    refine ⟨fun e => absurd e (by decide), fun _ => ?_⟩
    refine l_X8_laysSpots_10 (s0 := smL lab l.length) (M0 := M0) hN h0 hk ?_ l.length N 0 (iI 0) M (by omega) (by have := h0.2.1; omega) ⟨hf0, lab, hL, Or.inl ⟨rfl, fun a b h => by omega, Nat.le_refl _⟩⟩
    intro x1 M' hP
    obtain ⟨f1, lab', b1, b2⟩ := hP
    rcases b2 with b2 | b2
    · rw [b2.1]
      show f_X8_laysSpots_b2 N (f_X8_laysSpots_l2 N Q f) (iI 0) M' Q
      unfold f_X8_laysSpots_b2
      exact ⟨fun _ => hK M' lab' f1 b1 (fun a b hn => b2.2.1 a b (Or.inl hn.lt.1) hn), fun e => absurd rfl e⟩
    · have := b2.2
      omega
  | succ s ih =>
    intro f lab M hs hf hf0 hL
    obtain ⟨f, rfl⟩ : ∃ g, f = g + 2 := ⟨f - 2, by omega⟩
    show f_X8_laysSpots_b2 N (f_X8_laysSpots_l2 N Q (f + 1)) (iI 1) M Q
    unfold f_X8_laysSpots_b2
    refine ⟨fun e => absurd e (by decide), fun _ => ?_⟩
    refine l_X8_laysSpots_10 (s0 := smL lab l.length) (M0 := M0) hN h0 hk ?_ l.length N 0 (iI 0) M (by omega) (by have := h0.2.1; omega) ⟨hf0, lab, hL, Or.inl ⟨rfl, fun a b h => by omega, Nat.le_refl _⟩⟩
    intro x1 M' hP
    obtain ⟨f1, lab', b1, b2⟩ := hP
    rcases b2 with b2 | b2
    · rw [b2.1]
      show f_X8_laysSpots_b2 N (f_X8_laysSpots_l2 N Q f) (iI 0) M' Q
      unfold f_X8_laysSpots_b2
      exact ⟨fun _ => hK M' lab' f1 b1 (fun a b hn => b2.2.1 a b (Or.inl hn.lt.1) hn), fun e => absurd rfl e⟩
    · rw [b2.1]
      exact ih (f + 1) lab' M' (by omega) (by omega) f1 b1
/-- the labels have sunk: a's label is the first that it hangs together with -/
def SL (l : List Ev) (lab : Nat → Nat) : Prop := (∀ a, a < l.length → lab a ≤ a ∧ Cn l (lab a) a) ∧ ∀ a b, Cn l a b → lab a = lab b
theorem SL.mk' {l : List Ev} {lab : Nat → Nat} {M : zMem} (h : LB l lab M) (hs : ∀ a b, nrI l a b → lab a ≤ lab b) : SL l lab := by
  refine ⟨fun a ha => (h a ha).2, fun a b hc => hc (fun x => lab a = lab x) rfl (fun x y hx hxy => ?_)⟩
  have := hs x y hxy
  have := hs y x hxy.sy
  omega
theorem SL.idem {l : List Ev} {lab : Nat → Nat} (h : SL l lab) {a : Nat} (ha : a < l.length) : lab (lab a) = lab a := h.2 _ _ (h.1 a ha).2
theorem SL.first {l : List Ev} {lab : Nat → Nat} (h : SL l lab) {a : Nat} (ha : a < l.length) : fst l a ↔ lab a = a := by
  refine ⟨fun hf => ?_, fun e b hb hc => ?_⟩
  · rcases Nat.lt_or_ge (lab a) a with q | q
    · exact absurd (h.1 a ha).2 (hf _ q)
    · have := (h.1 a ha).1
      omega
  · have h1 := h.2 b a hc
    have h2 := (h.1 b (by omega)).1
    omega
theorem SL.isSp {l : List Ev} {lab : Nat → Nat} (h : SL l lab) : IsSp l (fun a => fc l (lab a)) := by
  refine ⟨fun a ha hf => ?_, fun a b ha hb hc => ?_⟩
  · show fc l (lab a) = _
    rw [(h.first ha).mp hf]
  · show fc l (lab a) = fc l (lab b)
    rw [h.2 a b hc]
def NB (l : List Ev) (lab : Nat → Nat) (D : Nat → Prop) (M : zMem) : Prop := ∀ a, a < l.length → M.1 60 a = iI (ifp (D a) (-1 - (fc l (lab a) : Int)) (lab a : Int))
theorem NB.to {l : List Ev} {lab : Nat → Nat} {D D' : Nat → Prop} {M : zMem} (h : NB l lab D M) (hD : ∀ a, a < l.length → (D a ↔ D' a)) : NB l lab D' M := by
  intro a ha
  rw [h a ha]
  rcases Classical.em (D a) with q | q
  · rw [ifp_t q, ifp_t ((hD a ha).mp q)]
  · rw [ifp_f q, ifp_f (fun w => q ((hD a ha).mpr w))]
theorem l_X8_laysSpots_101 {N c : Nat} {l : List Ev} {lab : Nat → Nat} {M0 : zMem} {k88 : Int32 → zMem → Prop} {Q : zMem → Prop} (h0 : MR3 l M0) (hS : SL l lab) (hc : c < l.length) (hK : ∀ M, fs s60 M0 M → NB l lab (fun a => lab a < c + 1) M → M.1 47 24 = iI (fc l (c + 1) : Int) → k88 (iI ((c : Int) + 1)) M) : ∀ (r f d : Nat) (x3 : Int32) (M : zMem), r + d = l.length → r + 1 ≤ f → c ≤ d → fs s60 M0 M → ((lab c = c ∧ c < d ∧ x3 = iI 1) ∨ (¬ (lab c = c ∧ c < d) ∧ x3 = iI 0)) → NB l lab (fun a => lab a < c ∨ (lab a = c ∧ a < d)) M → M.1 47 24 = iI (fc l c : Int) → f_X8_laysSpots_l101 N k88 (iI c) Q f x3 (iI (d : Int)) M := by
  have hl := h0.2.1
  intro r
  induction r with
  | zero =>
    intro f d x3 M hd hf hcd hf0 hx hB hs
    obtain ⟨f, rfl⟩ : ∃ g, f = g + 1 := ⟨f - 1, by omega⟩
    show f_X8_laysSpots_b101 N k88 (f_X8_laysSpots_l101 N k88 (iI c) Q f) (iI c) x3 (iI (d : Int)) M Q
    unfold f_X8_laysSpots_b101
    have h3 := MR3_s60 h0 hf0
    rw [h3.1, hs]
    refine ⟨fun _ => ?_, fun cc => ?_⟩
    · have fin : ∀ v : Int32, iI (fc l c : Int) + v = iI (fc l (c + 1) : Int) → f_X8_laysSpots_b181 N k88 (iI c) (iI (fc l c : Int)) v M Q := by
        intro v hv
        unfold f_X8_laysSpots_b181
        intro M4 g4 v5 g5
        rw [hv] at g4
        simp (disch := omega) only [iI_m1, iI_0, iI_1, iI_2, iI_3, iI_4, iI_5, iI_6, iI_7, iI_8, iI_9, iI_10, iI_11, iI_12, iI_13, iI_16, iI_18, iI_20, iI_24, iI_31, iI_32, iI_33, iI_36, iI_48, iI_57, iI_59, iI_63, iI_64, iI_97, iI_100, iI_101, iI_130, iI_255, iI_256, iI_512, iI_1000, iI_1009, iI_2000, iI_2048, iI_32768, iI_2147483647, iI_add, iI_sub, iI_mul, iI_neg, iI_lt, iI_le, iI_eq, iI_in] at g5
        subst g5
        refine hK M4 (hf0.tr (by subst g4; exact fs_wI (Or.inr ⟨rfl, rfl⟩))) ?_ (by subst g4; rw [zwI_1, if_pos ⟨rfl, rfl⟩])
        intro a ha
        have hq := hB.to (D' := fun a => lab a < c + 1) (fun a ha => by omega) a ha
        subst g4
        rw [zwI_1, if_neg (by omega)]
        exact hq
      rcases hx with hx | hx
      · rw [hx.2.2]
        refine ⟨fun e => absurd e (by decide), fun _ => fin 1 ?_⟩
        rw [fc_y ((hS.first hc).mpr hx.1), iI_1, iI_add]
        rfl
      · rw [hx.2]
        refine ⟨fun _ => fin 0 ?_, fun e => absurd rfl e⟩
        rw [fc_n (fun w => hx.1 ⟨(hS.first hc).mp w, by omega⟩), iI_0, iI_add, Int.add_zero]
    · simp (disch := omega) only [iI_m1, iI_0, iI_1, iI_2, iI_3, iI_4, iI_5, iI_6, iI_7, iI_8, iI_9, iI_10, iI_11, iI_12, iI_13, iI_16, iI_18, iI_20, iI_24, iI_31, iI_32, iI_33, iI_36, iI_48, iI_57, iI_59, iI_63, iI_64, iI_97, iI_100, iI_101, iI_130, iI_255, iI_256, iI_512, iI_1000, iI_1009, iI_2000, iI_2048, iI_32768, iI_2147483647, iI_add, iI_sub, iI_mul, iI_neg, iI_lt, iI_le, iI_eq, iI_in] at cc
      omega
  | succ r ih =>
    intro f d x3 M hd hf hcd hf0 hx hB hs
    obtain ⟨f, rfl⟩ : ∃ g, f = g + 1 := ⟨f - 1, by omega⟩
    show f_X8_laysSpots_b101 N k88 (f_X8_laysSpots_l101 N k88 (iI c) Q f) (iI c) x3 (iI (d : Int)) M Q
    unfold f_X8_laysSpots_b101
    have h3 := MR3_s60 h0 hf0
    have hdl : d < l.length := by omega
    have vd : vp_in (iI (d : Int)) 100 := iI_in0 (by omega) (by omega) (by decide)
    rw [h3.1]
    refine ⟨fun cc => ?_, fun _ => ⟨vd, ?_⟩⟩
    · simp (disch := omega) only [iI_m1, iI_0, iI_1, iI_2, iI_3, iI_4, iI_5, iI_6, iI_7, iI_8, iI_9, iI_10, iI_11, iI_12, iI_13, iI_16, iI_18, iI_20, iI_24, iI_31, iI_32, iI_33, iI_36, iI_48, iI_57, iI_59, iI_63, iI_64, iI_97, iI_100, iI_101, iI_130, iI_255, iI_256, iI_512, iI_1000, iI_1009, iI_2000, iI_2048, iI_32768, iI_2147483647, iI_add, iI_sub, iI_mul, iI_neg, iI_lt, iI_le, iI_eq, iI_in] at cc
      omega
    have hfc := fc_le l (lab d)
    have hlb := hS.1 d hdl
    have rd : zrd M 60 (iI (d : Int)) = iI (ifp (lab d < c) (-1 - (fc l (lab d) : Int)) (lab d : Int)) := by
      rw [zrd_iI (by omega) (by omega), show ((d : Int)).toNat = d by omega]
      exact hB.to (D' := fun a => lab a < c ∨ (lab a = c ∧ a < d)) (fun a _ => Iff.rfl) d hdl |>.trans (by
        rcases Classical.em (lab d < c) with q | q
        · rw [ifp_t (Or.inl q), ifp_t q]
        · rw [ifp_f (by omega), ifp_f q])
    have key : zrd M 60 (iI (d : Int)) = iI (c : Int) ↔ lab d = c := by
      rw [rd]
      rcases Classical.em (lab d < c) with q | q
      · rw [ifp_t q, iI_eq (by omega) (by omega) (by omega) (by omega)]
        constructor <;> intro w <;> omega
      · rw [ifp_f q, iI_eq (by omega) (by omega) (by omega) (by omega)]
        constructor <;> intro w <;> omega
    have go : ∀ x3' M', fs s60 M0 M' → ((lab c = c ∧ c < d + 1 ∧ x3' = iI 1) ∨ (¬ (lab c = c ∧ c < d + 1) ∧ x3' = iI 0)) → NB l lab (fun a => lab a < c ∨ (lab a = c ∧ a < d + 1)) M' → M'.1 47 24 = iI (fc l c : Int) → f_X8_laysSpots_b161 N k88 (f_X8_laysSpots_l101 N k88 (iI c) Q f) (iI c) x3' (iI (d : Int)) M' Q := by
      intro x3' M' q1 q2 q3 q4
      unfold f_X8_laysSpots_b161
      intro v g
      simp (disch := omega) only [iI_m1, iI_0, iI_1, iI_2, iI_3, iI_4, iI_5, iI_6, iI_7, iI_8, iI_9, iI_10, iI_11, iI_12, iI_13, iI_16, iI_18, iI_20, iI_24, iI_31, iI_32, iI_33, iI_36, iI_48, iI_57, iI_59, iI_63, iI_64, iI_97, iI_100, iI_101, iI_130, iI_255, iI_256, iI_512, iI_1000, iI_1009, iI_2000, iI_2048, iI_32768, iI_2147483647, iI_add, iI_sub, iI_mul, iI_neg, iI_lt, iI_le, iI_eq, iI_in] at g
      subst g
      exact ih f (d + 1) x3' M' (by omega) (by omega) (by omega) q1 q2 q3 q4
    have put : lab d = c → f_X8_laysSpots_b146 N k88 (f_X8_laysSpots_l101 N k88 (iI c) Q f) (iI c) (iI (d : Int)) M Q := by
      intro hlc
      have hcc : lab c = c := by have := hS.idem hdl; rw [hlc] at this; exact this
      unfold f_X8_laysSpots_b146
      refine ⟨vd, fun M7 g7 => ?_⟩
      rw [hs, zst_iI (by omega) (by omega), show ((d : Int)).toNat = d by omega, iI_m1, iI_sub] at g7
      refine go 1 M7 (hf0.tr (by subst g7; exact fs_wI (Or.inl rfl))) (Or.inl ⟨hcc, by omega, rfl⟩) ?_ ?_
      · intro a ha
        by_cases had : a = d
        · subst had
          rw [ifp_t (Or.inr ⟨hlc, by omega⟩), hlc]
          subst g7
          rw [zwI_1, if_pos ⟨rfl, rfl⟩]
        · have hq := hB.to (D' := fun a => lab a < c ∨ (lab a = c ∧ a < d)) (fun a _ => Iff.rfl) a ha
          have hq2 : M7.1 60 a = M.1 60 a := by subst g7; rw [zwI_1, if_neg (by omega)]
          rw [hq2, hq]
          dsimp only
          rw [show (lab a < c ∨ lab a = c ∧ a < d) = (lab a < c ∨ lab a = c ∧ a < d + 1) from propext ⟨fun w => by omega, fun w => by omega⟩]
      · subst g7
        rw [zwI_1, if_neg (by omega)]
        exact hs
    have skip : lab d ≠ c → f_X8_laysSpots_b131 N k88 (f_X8_laysSpots_l101 N k88 (iI c) Q f) (iI c) x3 (iI (d : Int)) M Q := by
      intro hlc
      have nx : f_X8_laysSpots_b161 N k88 (f_X8_laysSpots_l101 N k88 (iI c) Q f) (iI c) x3 (iI (d : Int)) M Q := by
        refine go x3 M hf0 ?_ (hB.to (fun a ha => ?_)) hs
        · rcases hx with hx | hx
          · exact Or.inl ⟨hx.1, by omega, hx.2.2⟩
          · refine Or.inr ⟨fun w => hx.1 ⟨w.1, ?_⟩, hx.2⟩
            rcases Nat.lt_or_ge c d with q | q
            · exact q
            · have : c = d := by omega
              subst this
              exact absurd w.1 hlc
        · by_cases had : a = d
          · subst had
            omega
          · omega
      unfold f_X8_laysSpots_b131
      exact ⟨fun _ => nx, fun _ => ⟨vd, fun _ => nx, fun w => absurd (key.mp w) hlc⟩⟩
    refine ⟨fun w => skip (fun q => w (key.mpr q)), fun w => ?_⟩
    have hlc := key.mp w
    refine ⟨fun w2 => ?_, fun w2 => ⟨fun _ => put hlc, fun w3 => ?_⟩⟩
    · unfold f_X8_laysSpots_b131
      exact ⟨fun e => absurd e w2, fun _ => ⟨vd, fun e => absurd w e, fun _ => put hlc⟩⟩
    · exfalso
      have hcc : lab c = c := by have := hS.idem hdl; rw [hlc] at this; exact this
      rcases hx with hx | hx
      · rw [hx.2.2] at w2
        exact absurd w2 (by decide)
      · have : d = c := by
          have := hx.1
          omega
        subst this
        exact w3 rfl
theorem l_X8_laysSpots_193 {N : Nat} {l : List Ev} {lab : Nat → Nat} {M0 : zMem} {Q : zMem → Prop} (h0 : MR3 l M0) (hS : SL l lab) (hQ : ∀ M, fs s60 M0 M → (∀ a, a < l.length → M.1 60 a = iI (fc l (lab a) : Int)) → M.1 47 24 = iI (fc l l.length : Int) → Q M) : ∀ (r f d : Nat) (M : zMem), r + d = l.length → r + 1 ≤ f → fs s60 M0 M → (∀ a, a < l.length → M.1 60 a = iI (ifp (a < d) (fc l (lab a) : Int) (-1 - (fc l (lab a) : Int)))) → M.1 47 24 = iI (fc l l.length : Int) → f_X8_laysSpots_l193 N Q f (iI (d : Int)) M := by
  have hl := h0.2.1
  intro r
  induction r with
  | zero =>
    intro f d M hd hf hf0 hB hs
    obtain ⟨f, rfl⟩ : ∃ g, f = g + 1 := ⟨f - 1, by omega⟩
    show f_X8_laysSpots_b193 N (f_X8_laysSpots_l193 N Q f) (iI (d : Int)) M Q
    unfold f_X8_laysSpots_b193
    have h3 := MR3_s60 h0 hf0
    rw [h3.1]
    refine ⟨fun _ => hQ M hf0 (fun a ha => ?_) hs, fun cc => ?_⟩
    · rw [hB a ha, ifp_t (by omega)]
    · simp (disch := omega) only [iI_m1, iI_0, iI_1, iI_2, iI_3, iI_4, iI_5, iI_6, iI_7, iI_8, iI_9, iI_10, iI_11, iI_12, iI_13, iI_16, iI_18, iI_20, iI_24, iI_31, iI_32, iI_33, iI_36, iI_48, iI_57, iI_59, iI_63, iI_64, iI_97, iI_100, iI_101, iI_130, iI_255, iI_256, iI_512, iI_1000, iI_1009, iI_2000, iI_2048, iI_32768, iI_2147483647, iI_add, iI_sub, iI_mul, iI_neg, iI_lt, iI_le, iI_eq, iI_in] at cc
      omega
  | succ r ih =>
    intro f d M hd hf hf0 hB hs
    obtain ⟨f, rfl⟩ : ∃ g, f = g + 1 := ⟨f - 1, by omega⟩
    show f_X8_laysSpots_b193 N (f_X8_laysSpots_l193 N Q f) (iI (d : Int)) M Q
    unfold f_X8_laysSpots_b193
    have h3 := MR3_s60 h0 hf0
    have hdl : d < l.length := by omega
    have vd : vp_in (iI (d : Int)) 100 := iI_in0 (by omega) (by omega) (by decide)
    rw [h3.1]
    refine ⟨fun cc => ?_, fun _ => ⟨vd, vd, fun M2 g2 v g => ?_⟩⟩
    · simp (disch := omega) only [iI_m1, iI_0, iI_1, iI_2, iI_3, iI_4, iI_5, iI_6, iI_7, iI_8, iI_9, iI_10, iI_11, iI_12, iI_13, iI_16, iI_18, iI_20, iI_24, iI_31, iI_32, iI_33, iI_36, iI_48, iI_57, iI_59, iI_63, iI_64, iI_97, iI_100, iI_101, iI_130, iI_255, iI_256, iI_512, iI_1000, iI_1009, iI_2000, iI_2048, iI_32768, iI_2147483647, iI_add, iI_sub, iI_mul, iI_neg, iI_lt, iI_le, iI_eq, iI_in] at cc
      omega
    · rw [zrd_iI (by omega) (by omega), zst_iI (by omega) (by omega), show ((d : Int)).toNat = d by omega, hB d hdl, ifp_f (by omega), iI_m1, iI_sub, show (-1 - (-1 - (fc l (lab d) : Int))) = (fc l (lab d) : Int) by omega] at g2
      simp (disch := omega) only [iI_m1, iI_0, iI_1, iI_2, iI_3, iI_4, iI_5, iI_6, iI_7, iI_8, iI_9, iI_10, iI_11, iI_12, iI_13, iI_16, iI_18, iI_20, iI_24, iI_31, iI_32, iI_33, iI_36, iI_48, iI_57, iI_59, iI_63, iI_64, iI_97, iI_100, iI_101, iI_130, iI_255, iI_256, iI_512, iI_1000, iI_1009, iI_2000, iI_2048, iI_32768, iI_2147483647, iI_add, iI_sub, iI_mul, iI_neg, iI_lt, iI_le, iI_eq, iI_in] at g
      subst g
      refine ih f (d + 1) M2 (by omega) (by omega) (hf0.tr (by subst g2; exact fs_wI (Or.inl rfl))) (fun a ha => ?_) ?_
      · by_cases had : a = d
        · subst had
          rw [ifp_t (by omega)]
          subst g2
          rw [zwI_1, if_pos ⟨rfl, rfl⟩]
        · have hq2 : M2.1 60 a = M.1 60 a := by subst g2; rw [zwI_1, if_neg (by omega)]
          rw [hq2, hB a ha, show (a < d) = (a < d + 1) from propext ⟨fun w => by omega, fun w => by omega⟩]
      · subst g2
        rw [zwI_1, if_neg (by omega)]
        exact hs
theorem l_X8_laysSpots_88 {N : Nat} {l : List Ev} {lab : Nat → Nat} {M0 : zMem} {Q : zMem → Prop} (hN : 102 ≤ N) (h0 : MR3 l M0) (hS : SL l lab) (hQ : ∀ M, fs s60 M0 M → (∀ a, a < l.length → M.1 60 a = iI (fc l (lab a) : Int)) → M.1 47 24 = iI (fc l l.length : Int) → Q M) : ∀ (r f c : Nat) (M : zMem), r + c = l.length → r + 1 ≤ f → fs s60 M0 M → NB l lab (fun a => lab a < c) M → M.1 47 24 = iI (fc l c : Int) → f_X8_laysSpots_l88 N Q f (iI (c : Int)) M := by
  have hl := h0.2.1
  intro r
  induction r with
  | zero =>
    intro f c M hd hf hf0 hB hs
    obtain ⟨f, rfl⟩ : ∃ g, f = g + 1 := ⟨f - 1, by omega⟩
    show f_X8_laysSpots_b88 N (f_X8_laysSpots_l88 N Q f) (iI (c : Int)) M Q
    unfold f_X8_laysSpots_b88
    have h3 := MR3_s60 h0 hf0
    rw [h3.1]
    refine ⟨fun _ => ?_, fun cc => ?_⟩
    · refine l_X8_laysSpots_193 h0 hS hQ l.length N 0 M (by omega) (by omega) hf0 (fun a ha => ?_) (by rw [hs, show c = l.length by omega])
      have := (hS.1 a ha).1
      rw [hB a ha, ifp_t (by omega), ifp_f (by omega)]
    · simp (disch := omega) only [iI_m1, iI_0, iI_1, iI_2, iI_3, iI_4, iI_5, iI_6, iI_7, iI_8, iI_9, iI_10, iI_11, iI_12, iI_13, iI_16, iI_18, iI_20, iI_24, iI_31, iI_32, iI_33, iI_36, iI_48, iI_57, iI_59, iI_63, iI_64, iI_97, iI_100, iI_101, iI_130, iI_255, iI_256, iI_512, iI_1000, iI_1009, iI_2000, iI_2048, iI_32768, iI_2147483647, iI_add, iI_sub, iI_mul, iI_neg, iI_lt, iI_le, iI_eq, iI_in] at cc
      omega
  | succ r ih =>
    intro f c M hd hf hf0 hB hs
    obtain ⟨f, rfl⟩ : ∃ g, f = g + 1 := ⟨f - 1, by omega⟩
    show f_X8_laysSpots_b88 N (f_X8_laysSpots_l88 N Q f) (iI (c : Int)) M Q
    unfold f_X8_laysSpots_b88
    have h3 := MR3_s60 h0 hf0
    rw [h3.1]
    refine ⟨fun cc => ?_, fun _ => ?_⟩
    · simp (disch := omega) only [iI_m1, iI_0, iI_1, iI_2, iI_3, iI_4, iI_5, iI_6, iI_7, iI_8, iI_9, iI_10, iI_11, iI_12, iI_13, iI_16, iI_18, iI_20, iI_24, iI_31, iI_32, iI_33, iI_36, iI_48, iI_57, iI_59, iI_63, iI_64, iI_97, iI_100, iI_101, iI_130, iI_255, iI_256, iI_512, iI_1000, iI_1009, iI_2000, iI_2048, iI_32768, iI_2147483647, iI_add, iI_sub, iI_mul, iI_neg, iI_lt, iI_le, iI_eq, iI_in] at cc
      omega
    · refine l_X8_laysSpots_101 h0 hS (by omega) (fun M' q1 q2 q3 => ih f (c + 1) M' (by omega) (by omega) q1 q2 q3) r.succ N c (iI 0) M (by omega) (by omega) (Nat.le_refl _) hf0 (Or.inr ⟨by omega, rfl⟩) (hB.to (fun a ha => ?_)) hs
      have := (hS.1 a ha).1
      omega
theorem t_X8_laysSpots {N : Nat} {l : List Ev} {M : zMem} {Q : zMem → Prop} (hN : 10000 ≤ N) (h : MR l M) (hk : okL l) (hQ : ∀ M' sp, fs s60 M M' → IsSp l sp → (∀ a, a < l.length → M'.1 60 a = iI (sp a : Int)) → M'.1 47 24 = iI (fc l l.length : Int) → Q M') : f_X8_laysSpots N M Q := by
  unfold f_X8_laysSpots
  have h0 := h.to3
  have hl := h.2.1
  have hL : LB l (fun a => a) M := fun a ha => by
    obtain ⟨e, he⟩ : ∃ e, l[a]? = some e := ⟨_, List.getElem?_eq_getElem ha⟩
    exact ⟨(h.2.2 a e he).2.2.2, Nat.le_refl _, Cn.rf⟩
  refine l_X8_laysSpots_2 (M0 := M) (by omega) h0 hk ?_ (smL (fun a => a) l.length) N (fun a => a) M (Nat.le_refl _) ?_ fs.rf hL
  · intro M1 lab f1 b1 b2 M2 g2
    have hS := SL.mk' b1 b2
    refine l_X8_laysSpots_88 (lab := lab) (M0 := M) (by omega) h0 hS ?_ l.length N 0 M2 (by omega) (by omega) (f1.tr (by subst g2; exact fs_wI (Or.inr ⟨rfl, rfl⟩))) ?_ ?_
    · intro M' q1 q2 q3
      exact hQ M' _ q1 hS.isSp q2 q3
    · intro a ha
      rw [ifp_f (by omega)]
      subst g2
      rw [zwI_1, if_neg (by omega)]
      exact (b1 a ha).1
    · subst g2
      rw [zwI_1, if_pos ⟨rfl, rfl⟩]
      rfl
  · have := smL_le (lab := fun a => a) l.length (fun a ha => by omega)
    omega
