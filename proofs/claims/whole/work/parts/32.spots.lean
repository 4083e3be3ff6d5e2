/-! ===== spots: doubts that hang together, numbered by their first meeting ===== -/
def nr (e f : Ev) : Prop := e.2.2 = false ∧ f.2.2 = false ∧ e.1 ≤ f.1 + 1 ∧ f.1 ≤ e.1 + 1 ∧ e.2.1 ≤ f.2.1 + 1 ∧ f.2.1 ≤ e.2.1 + 1
theorem nr.sy {e f : Ev} (h : nr e f) : nr f e := ⟨h.2.1, h.1, h.2.2.2.1, h.2.2.1, h.2.2.2.2.2, h.2.2.2.2.1⟩
def nrI (l : List Ev) (a b : Nat) : Prop := ∃ e f, l[a]? = some e ∧ l[b]? = some f ∧ nr e f
theorem nrI.sy {l : List Ev} {a b : Nat} (h : nrI l a b) : nrI l b a := by
  obtain ⟨e, f, h1, h2, h3⟩ := h
  exact ⟨f, e, h2, h1, h3.sy⟩
theorem nrI.lt {l : List Ev} {a b : Nat} (h : nrI l a b) : a < l.length ∧ b < l.length := by
  obtain ⟨e, f, h1, h2, h3⟩ := h
  exact ⟨(List.getElem?_eq_some_iff.mp h1).1, (List.getElem?_eq_some_iff.mp h2).1⟩
/-- a and b hang together: in every set that has a and is closed, b is too -/
def Cn (l : List Ev) (a b : Nat) : Prop := ∀ S : Nat → Prop, S a → (∀ x y, S x → nrI l x y → S y) → S b
theorem Cn.rf {l : List Ev} {a : Nat} : Cn l a a := fun _ h _ => h
theorem Cn.tr {l : List Ev} {a b c : Nat} (h1 : Cn l a b) (h2 : Cn l b c) : Cn l a c := fun S hS hc => h2 S (h1 S hS hc) hc
theorem Cn.st {l : List Ev} {a b : Nat} (h : nrI l a b) : Cn l a b := fun _ hS hc => hc a b hS h
theorem Cn.sy {l : List Ev} {a b : Nat} (h : Cn l a b) : Cn l b a := h (fun x => Cn l x a) Cn.rf (fun _ _ hx hxy => (Cn.st hxy.sy).tr hx)
theorem Cn.lt {l : List Ev} {a b : Nat} (h : Cn l a b) (ha : a < l.length) : b < l.length := h (fun x => x < l.length) ha (fun _ _ _ hxy => hxy.lt.2)
/-- no lower one hangs together with it -/
def fst (l : List Ev) (a : Nat) : Prop := ∀ b, b < a → ¬ Cn l b a
noncomputable def fc (l : List Ev) : Nat → Nat
  | 0 => 0
  | k + 1 => fc l k + ifp (fst l k) 1 0
theorem fc_y {l : List Ev} {k : Nat} (h : fst l k) : fc l (k + 1) = fc l k + 1 := by
  rw [show fc l (k + 1) = fc l k + ifp (fst l k) 1 0 from rfl, ifp_t h]
theorem fc_n {l : List Ev} {k : Nat} (h : ¬ fst l k) : fc l (k + 1) = fc l k := by
  rw [show fc l (k + 1) = fc l k + ifp (fst l k) 1 0 from rfl, ifp_f h, Nat.add_zero]
theorem fc_mono {l : List Ev} {a b : Nat} (h : a ≤ b) : fc l a ≤ fc l b := by
  induction b with
  | zero => rw [show a = 0 by omega]; exact Nat.le_refl _
  | succ b ih =>
    rcases Nat.lt_or_ge b a with h1 | h1
    · rw [show a = b + 1 by omega]; exact Nat.le_refl _
    · refine Nat.le_trans (ih h1) ?_
      rcases Classical.em (fst l b) with hf | hf
      · rw [fc_y hf]; omega
      · rw [fc_n hf]; exact Nat.le_refl _
theorem fc_le (l : List Ev) (k : Nat) : fc l k ≤ k := by
  induction k with
  | zero => exact Nat.le_refl _
  | succ k ih =>
    rcases Classical.em (fst l k) with hf | hf
    · rw [fc_y hf]; omega
    · rw [fc_n hf]; omega
theorem fc_lt {l : List Ev} {a b : Nat} (h : fst l a) (hab : a < b) : fc l a < fc l b := by
  have h1 := fc_y h
  have h2 := fc_mono (l := l) (show a + 1 ≤ b by omega)
  omega
def IsSp (l : List Ev) (sp : Nat → Nat) : Prop := (∀ a, a < l.length → fst l a → sp a = fc l a) ∧ ∀ a b, a < l.length → b < l.length → Cn l a b → sp a = sp b
theorem fst_ex (l : List Ev) : ∀ a, a < l.length → ∃ b, b ≤ a ∧ fst l b ∧ Cn l b a := by
  intro a
  induction a using Nat.strongRecOn with
  | ind a ih =>
    intro ha
    rcases Classical.em (fst l a) with h | h
    · exact ⟨a, Nat.le_refl _, h, Cn.rf⟩
    · obtain ⟨b, hb⟩ : ∃ b, b < a ∧ Cn l b a := by
        refine Classical.byContradiction (fun hn => h (fun b hb hc => hn ⟨b, hb, hc⟩))
      obtain ⟨c, c1, c2, c3⟩ := ih b hb.1 (by omega)
      exact ⟨c, by omega, c2, c3.tr hb.2⟩
theorem IsSp.un {l : List Ev} {sp sp' : Nat → Nat} (h : IsSp l sp) (h' : IsSp l sp') {a : Nat} (ha : a < l.length) : sp a = sp' a := by
  obtain ⟨b, b1, b2, b3⟩ := fst_ex l a ha
  rw [← h.2 b a (by omega) ha b3, ← h'.2 b a (by omega) ha b3, h.1 b (by omega) b2, h'.1 b (by omega) b2]
theorem IsSp.iff {l : List Ev} {sp : Nat → Nat} (h : IsSp l sp) {a b : Nat} (ha : a < l.length) (hb : b < l.length) : sp a = sp b ↔ Cn l a b := by
  refine ⟨fun e => ?_, fun e => h.2 a b ha hb e⟩
  obtain ⟨c, c1, c2, c3⟩ := fst_ex l a ha
  obtain ⟨d, d1, d2, d3⟩ := fst_ex l b hb
  rw [← h.2 c a (by omega) ha c3, ← h.2 d b (by omega) hb d3, h.1 c (by omega) c2, h.1 d (by omega) d2] at e
  have hcd : c = d := by
    rcases Nat.lt_trichotomy c d with q | q | q
    · have := fc_lt c2 q; omega
    · exact q
    · have := fc_lt d2 q; omega
  subst hcd
  exact c3.sy.tr d3
theorem IsSp.lt {l : List Ev} {sp : Nat → Nat} (h : IsSp l sp) {a : Nat} (ha : a < l.length) : sp a < fc l l.length := by
  obtain ⟨c, c1, c2, c3⟩ := fst_ex l a ha
  rw [← h.2 c a (by omega) ha c3, h.1 c (by omega) c2]
  exact fc_lt c2 (by omega)
/-! ===== the reference numbers its spots ===== -/
def okL (l : List Ev) : Prop := ∀ e ∈ l, (1 ≤ e.1 ∧ e.1 < 64) ∧ (1 ≤ e.2.1 ∧ e.2.1 < 64)
def MR3 (l : List Ev) (M : zMem) : Prop := M.1 47 19 = iI (l.length : Int) ∧ l.length ≤ 100 ∧ ∀ (k : Nat) (e : Ev), l[k]? = some e → M.1 57 k = iI e.1 ∧ M.1 58 k = iI e.2.1 ∧ M.1 59 k = iI (bI e.2.2)
theorem MR3.fs {l : List Ev} {M M' : zMem} {S : Nat → Nat → Prop} (h : MR3 l M) (hf : fs S M M') (h1 : ¬ S 47 19) (h2 : ∀ c k, 57 ≤ c → c ≤ 59 → ¬ S c k) : MR3 l M' := by
  refine ⟨(hf.2 _ _ h1).trans h.1, h.2.1, fun k e hk => ?_⟩
  obtain ⟨a, b, c⟩ := h.2.2 k e hk
  exact ⟨(hf.2 _ _ (h2 57 k (by omega) (by omega))).trans a, (hf.2 _ _ (h2 58 k (by omega) (by omega))).trans b, (hf.2 _ _ (h2 59 k (by omega) (by omega))).trans c⟩
theorem MR.to3 {l : List Ev} {M : zMem} (h : MR l M) : MR3 l M := ⟨h.1, h.2.1, fun k e hk => ⟨(h.2.2 k e hk).1, (h.2.2 k e hk).2.1, (h.2.2 k e hk).2.2.1⟩⟩
theorem t_X8_in {N : Nat} {z lo hi : Int} {M : zMem} {Q : Int32 → zMem → Prop} (hz : -2147483648 ≤ z ∧ z < 2147483648) (hlo : -2147483648 ≤ lo ∧ lo < 2147483648) (hhi : -2147483648 ≤ hi ∧ hi < 2147483648) (hQ1 : lo ≤ z ∧ z ≤ hi → Q (iI 1) M) (hQ0 : ¬ (lo ≤ z ∧ z ≤ hi) → Q (iI 0) M) : f_X8_in N (iI z) (iI lo) (iI hi) M Q := by
  unfold f_X8_in
  simp (disch := omega) only [iI_m1, iI_0, iI_1, iI_2, iI_3, iI_4, iI_5, iI_6, iI_7, iI_8, iI_9, iI_10, iI_11, iI_12, iI_13, iI_16, iI_18, iI_20, iI_24, iI_31, iI_32, iI_33, iI_36, iI_48, iI_57, iI_59, iI_63, iI_64, iI_97, iI_100, iI_101, iI_130, iI_255, iI_256, iI_512, iI_1000, iI_1009, iI_2000, iI_2048, iI_32768, iI_2147483647, iI_add, iI_sub, iI_mul, iI_neg, iI_lt, iI_le, iI_eq, iI_in]
  exact ⟨fun c => hQ0 (by omega), fun c => ⟨fun c2 => hQ0 (by omega), fun c2 => hQ1 (by omega)⟩⟩
theorem bI_0 (b : Bool) : iI (bI b) = 0 ↔ b = false := by cases b <;> decide
theorem t_X8_areNear {N a b : Nat} {l : List Ev} {e f : Ev} {M : zMem} {Q : Int32 → zMem → Prop} (hM : MR3 l M) (hk : okL l) (ha : l[a]? = some e) (hb : l[b]? = some f) (hQ1 : nr e f → Q (iI 1) M) (hQ0 : ¬ nr e f → Q (iI 0) M) : f_X8_areNear N (iI a) (iI b) M Q := by
  unfold f_X8_areNear
  have hl := hM.2.1
  have la := (List.getElem?_eq_some_iff.mp ha).1
  have lb := (List.getElem?_eq_some_iff.mp hb).1
  obtain ⟨a1, a2, a3⟩ := hM.2.2 a e ha
  obtain ⟨b1, b2, b3⟩ := hM.2.2 b f hb
  have oe := hk e (List.mem_of_getElem? ha)
  have of := hk f (List.mem_of_getElem? hb)
  rw [zrd_iI (by omega) (by omega), zrd_iI (by omega) (by omega), zrd_iI (by omega) (by omega), zrd_iI (by omega) (by omega)]
  rw [show ((a : Int)).toNat = a by omega, show ((b : Int)).toNat = b by omega, a3, b3, a1, b1, bI_0, bI_0, iI_sub]
  have va : vp_in (iI (a : Int)) 100 := iI_in0 (by omega) (by omega) (by decide)
  have vb : vp_in (iI (b : Int)) 100 := iI_in0 (by omega) (by omega) (by decide)
  refine ⟨va, fun c => hQ0 (fun h => c h.1), fun c => ⟨vb, fun c2 => hQ0 (fun h => c2 h.2.1), fun c2 => ⟨va, vb, ?_⟩⟩⟩
  refine t_X8_in (z := (e.1 : Int) - f.1) (lo := -1) (hi := 1) (by omega) (by decide) (by decide) (fun k => ?_) (fun k => ?_)
  · refine ⟨fun e => absurd e (by decide), fun _ => ⟨va, vb, ?_⟩⟩
    rw [zrd_iI (by omega) (by omega), zrd_iI (by omega) (by omega), show ((a : Int)).toNat = a by omega, show ((b : Int)).toNat = b by omega, a2, b2, iI_sub]
    refine t_X8_in (z := (e.2.1 : Int) - f.2.1) (lo := -1) (hi := 1) (by omega) (by decide) (by decide) (fun k2 => ?_) (fun k2 => ?_)
    · exact ⟨fun e => absurd e (by decide), fun _ => hQ1 ⟨c, c2, by omega, by omega, by omega, by omega⟩⟩
    · refine ⟨fun _ => hQ0 (fun h => k2 ?_), fun e => absurd rfl e⟩
      have := h.2.2.2.2
      omega
  · refine ⟨fun _ => hQ0 (fun h => k ?_), fun e => absurd rfl e⟩
    have := h.2.2
    omega
