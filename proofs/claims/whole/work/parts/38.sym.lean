/-! ===== as many spots in the other order ===== -/
theorem bxA_sy {p q : Nat → Int} {m n ax : Nat} : bxA p m q n ax ↔ bxA q n p m ax := ⟨fun h => h.symm, fun h => h.symm⟩
theorem apt_0 {p q : Nat → Int} {m n : Nat} : apt p m q n = 0 ↔ (¬ (bxA p m q n 0 ∨ bxA p m q n 1) ∧ ¬ clr p m q n ∧ ¬ clr q n p m) := by
  unfold apt
  rcases Classical.em (bxA p m q n 0 ∨ bxA p m q n 1) with h | h
  · rw [ifp_t h]
    exact ⟨fun e => absurd e (by decide), fun e => absurd h e.1⟩
  · rw [ifp_f h]
    rcases Classical.em (clr p m q n) with h2 | h2
    · rw [ifp_t h2]
      exact ⟨fun e => absurd e (by decide), fun e => absurd h2 e.2.1⟩
    · rw [ifp_f h2]
      rcases Classical.em (clr q n p m) with h3 | h3
      · rw [ifp_t h3]
        exact ⟨fun e => absurd e (by decide), fun e => absurd h3 e.2.2⟩
      · rw [ifp_f h3]
        exact ⟨fun _ => ⟨h, h2, h3⟩, fun _ => rfl⟩
theorem apt_sy {p q : Nat → Int} {m n : Nat} : apt p m q n = 0 ↔ apt q n p m = 0 := by
  rw [apt_0, apt_0, bxA_sy (ax := 0), bxA_sy (ax := 1)]
  exact ⟨fun h => ⟨h.1, h.2.2, h.2.1⟩, fun h => ⟨h.1, h.2.2, h.2.1⟩⟩
theorem crs_sy (p q : Nat → Int) (m i n j : Nat) : crs q n j p m i = - crs p m i q n j := by unfold crs; grind
theorem trn_0 {p q : Nat → Int} {m n : Nat} : trn p m q n ≠ 0 ↔ ((∀ i j, i < 3 → j < 3 → 0 < crs p m i q n j) ∨ (∀ i j, i < 3 → j < 3 → crs p m i q n j < 0)) := by
  unfold trn
  rcases Classical.em (∀ i j, i < 3 → j < 3 → 0 < crs p m i q n j) with h | h
  · rw [ifp_t h]
    exact ⟨fun _ => Or.inl h, fun _ => by decide⟩
  · rw [ifp_f h]
    rcases Classical.em (∀ i j, i < 3 → j < 3 → crs p m i q n j < 0) with h2 | h2
    · rw [ifp_t h2]
      exact ⟨fun _ => Or.inr h2, fun _ => by decide⟩
    · rw [ifp_f h2]
      exact ⟨fun e => absurd rfl e, fun e => absurd e (fun w => w.elim h h2)⟩
theorem trn_sy {p q : Nat → Int} {m n : Nat} (h : trn p m q n ≠ 0) : trn q n p m ≠ 0 := by
  rw [trn_0] at h ⊢
  rcases h with h | h
  · refine Or.inr (fun i j hi hj => ?_)
    rw [crs_sy]
    have := h j i hj hi
    omega
  · refine Or.inl (fun i j hi hj => ?_)
    rw [crs_sy]
    have := h j i hj hi
    omega
theorem cro_sy {p q : Nat → Int} {m n : Nat} : cro p m q n ↔ cro q n p m := ⟨fun h => ⟨trn_sy h.1, h.2.2, h.2.1⟩, fun h => ⟨trn_sy h.1, h.2.2, h.2.1⟩⟩
def swE (e : Ev) : Ev := (e.2.1, e.1, e.2.2)
theorem mts_sy {p q : Nat → Int} : ∀ (d m n : Nat), List.Perm (mts q p d n m) ((mts p q d m n).map swE) := by
  intro d
  induction d with
  | zero =>
    intro m n
    rw [show mts p q 0 m n = ifp (apt p m q n = 0) [(m, n, ifp (cro p m q n) true false)] [] from rfl, show mts q p 0 n m = ifp (apt q n p m = 0) [(n, m, ifp (cro q n p m) true false)] [] from rfl]
    rcases Classical.em (apt p m q n = 0) with h | h
    · rw [ifp_t h, ifp_t (apt_sy.mp h)]
      rcases Classical.em (cro p m q n) with h2 | h2
      · rw [ifp_t h2, ifp_t (cro_sy.mp h2)]
        exact List.Perm.refl _
      · rw [ifp_f h2, ifp_f (fun w => h2 (cro_sy.mpr w))]
        exact List.Perm.refl _
    · rw [ifp_f h, ifp_f (fun w => h (apt_sy.mpr w))]
      exact List.Perm.refl _
  | succ d ih =>
    intro m n
    rw [show mts p q (d + 1) m n = ifp (apt p m q n = 0) (ifp (cro p m q n) [(m, n, true)] (mts p q d (2 * m) (2 * n) ++ mts p q d (2 * m) (2 * n + 1) ++ mts p q d (2 * m + 1) (2 * n) ++ mts p q d (2 * m + 1) (2 * n + 1))) [] from rfl, show mts q p (d + 1) n m = ifp (apt q n p m = 0) (ifp (cro q n p m) [(n, m, true)] (mts q p d (2 * n) (2 * m) ++ mts q p d (2 * n) (2 * m + 1) ++ mts q p d (2 * n + 1) (2 * m) ++ mts q p d (2 * n + 1) (2 * m + 1))) [] from rfl]
    rcases Classical.em (apt p m q n = 0) with h | h
    · rw [ifp_t h, ifp_t (apt_sy.mp h)]
      rcases Classical.em (cro p m q n) with h2 | h2
      · rw [ifp_t h2, ifp_t (cro_sy.mp h2)]
        exact List.Perm.refl _
      · rw [ifp_f h2, ifp_f (fun w => h2 (cro_sy.mpr w))]
        rw [List.map_append, List.map_append, List.map_append]
        refine List.Perm.append ?_ (ih _ _)
        rw [List.append_assoc, List.append_assoc]
        refine List.Perm.append (ih _ _) ?_
        exact (List.Perm.append (ih _ _) (ih _ _)).trans List.perm_append_comm
    · rw [ifp_f h, ifp_f (fun w => h (apt_sy.mpr w))]
      exact List.Perm.refl _
/-- the places of two lists with the same members -/
def PB (l l' : List Ev) : Prop := ∃ s t : Nat → Nat, (∀ a, a < l.length → s a < l'.length ∧ l'[s a]? = l[a]? ∧ t (s a) = a) ∧ (∀ b, b < l'.length → t b < l.length ∧ l[t b]? = l'[b]? ∧ s (t b) = b)
theorem PB_of {l l' : List Ev} (h : List.Perm l l') : PB l l' := by
  induction h with
  | nil => exact ⟨id, id, fun a ha => absurd ha (Nat.not_lt_zero a), fun a ha => absurd ha (Nat.not_lt_zero a)⟩
  | cons x h ih =>
    obtain ⟨s, t, h1, h2⟩ := ih
    refine ⟨fun a => match a with | 0 => 0 | a + 1 => s a + 1, fun a => match a with | 0 => 0 | a + 1 => t a + 1, fun a ha => ?_, fun a ha => ?_⟩
    · cases a with
      | zero => exact ⟨by simp, rfl, rfl⟩
      | succ a =>
        obtain ⟨q1, q2, q3⟩ := h1 a (by simpa using ha)
        exact ⟨by simpa using q1, by simpa using q2, by simpa using q3⟩
    · cases a with
      | zero => exact ⟨by simp, rfl, rfl⟩
      | succ a =>
        obtain ⟨q1, q2, q3⟩ := h2 a (by simpa using ha)
        exact ⟨by simpa using q1, by simpa using q2, by simpa using q3⟩
  | swap x y l =>
    refine ⟨fun a => match a with | 0 => 1 | 1 => 0 | a + 2 => a + 2, fun a => match a with | 0 => 1 | 1 => 0 | a + 2 => a + 2, fun a ha => ?_, fun a ha => ?_⟩
    · match a, ha with
      | 0, _ => exact ⟨by simp, rfl, rfl⟩
      | 1, _ => exact ⟨by simp, rfl, rfl⟩
      | a + 2, ha => exact ⟨by simpa using ha, rfl, rfl⟩
    · match a, ha with
      | 0, _ => exact ⟨by simp, rfl, rfl⟩
      | 1, _ => exact ⟨by simp, rfl, rfl⟩
      | a + 2, ha => exact ⟨by simpa using ha, rfl, rfl⟩
  | trans h1 h2 ih1 ih2 =>
    obtain ⟨s, t, a1, a2⟩ := ih1
    obtain ⟨s', t', b1, b2⟩ := ih2
    refine ⟨fun a => s' (s a), fun a => t (t' a), fun a ha => ?_, fun a ha => ?_⟩
    · obtain ⟨q1, q2, q3⟩ := a1 a ha
      obtain ⟨r1, r2, r3⟩ := b1 (s a) q1
      exact ⟨r1, r2.trans q2, by dsimp only; rw [r3, q3]⟩
    · obtain ⟨r1, r2, r3⟩ := b2 a ha
      obtain ⟨q1, q2, q3⟩ := a2 (t' a) r1
      exact ⟨q1, q2.trans r2, by dsimp only; rw [q3, r3]⟩
theorem nrI_map {l l' : List Ev} {s : Nat → Nat} (h : ∀ a, a < l.length → l'[s a]? = l[a]?) {a b : Nat} (hn : nrI l a b) : nrI l' (s a) (s b) := by
  have hl := hn.lt
  obtain ⟨e, f, h1, h2, h3⟩ := hn
  exact ⟨e, f, (h a hl.1).trans h1, (h b hl.2).trans h2, h3⟩
theorem Cn_map {l l' : List Ev} {s : Nat → Nat} (h : ∀ a, a < l.length → l'[s a]? = l[a]?) {a b : Nat} (hn : Cn l a b) : Cn l' (s a) (s b) :=
  hn (fun x => Cn l' (s a) (s x)) Cn.rf (fun _ _ hx hxy => hx.tr (Cn.st (nrI_map h hxy)))
theorem cnS_inj {A : Nat → Prop} {f : Nat → Nat} {m : Nat} : ∀ (n : Nat) (B : Nat → Prop), (∀ a, a < n → A a → f a < m ∧ B (f a)) → (∀ a b, a < n → b < n → A a → A b → f a = f b → a = b) → cnS A n ≤ cnS B m := by
  intro n
  induction n with
  | zero => intro B _ _; exact Nat.zero_le _
  | succ n ih =>
    intro B h1 h2
    rcases Classical.em (A n) with hA | hA
    · obtain ⟨q1, q2⟩ := h1 n (by omega) hA
      have e1 := cnS_add (S := fun b => B b ∧ b ≠ f n) (d := f n) (fun w => w.2 rfl) m q1
      have e2 : cnS (fun a => (B a ∧ a ≠ f n) ∨ a = f n) m = cnS B m := cnS_to m (fun a _ => ⟨fun w => w.elim (fun w => w.1) (fun w => by rw [w]; exact q2), fun w => by
        by_cases hw : a = f n
        · exact Or.inr hw
        · exact Or.inl ⟨w, hw⟩⟩)
      have e3 := ih (fun b => B b ∧ b ≠ f n) (fun a ha hAa => ⟨(h1 a (by omega) hAa).1, (h1 a (by omega) hAa).2, fun w => by have := h2 a n (by omega) (by omega) hAa hA w; omega⟩) (fun a b ha hb => h2 a b (by omega) (by omega))
      rw [cnS_y hA]
      omega
    · rw [cnS_n hA]
      exact ih B (fun a ha => h1 a (by omega)) (fun a b ha hb => h2 a b (by omega) (by omega))
theorem fc_cnS (l : List Ev) : ∀ k, fc l k = cnS (fst l) k := by
  intro k
  induction k with
  | zero => rfl
  | succ k ih =>
    show fc l k + ifp (fst l k) 1 0 = cnS (fst l) k + ifp (fst l k) 1 0
    rw [ih]
theorem fc_PB {l l' : List Ev} (h : PB l l') : fc l l.length ≤ fc l' l'.length := by
  obtain ⟨s, t, h1, h2⟩ := h
  rw [fc_cnS, fc_cnS]
  refine cnS_inj (f := fun a => rep l' (s a)) l.length (fst l') (fun a ha _ => ?_) (fun a b ha hb fa fb he => ?_)
  · have q := h1 a ha
    have r := rep_ok q.1
    exact ⟨by omega, r.2.1⟩
  · have qa := h1 a ha
    have qb := h1 b hb
    have hc : Cn l' (s a) (s b) := by
      have r1 := (rep_ok qa.1).2.2
      have r2 := (rep_ok qb.1).2.2
      rw [← he] at r2
      exact r1.sy.tr r2
    have hc2 := Cn_map (s := t) (fun b hb => (h2 b hb).2.1) hc
    rw [qa.2.2, qb.2.2] at hc2
    exact fst_un fa fb hc2
theorem PB_sy {l l' : List Ev} (h : PB l l') : PB l' l := by
  obtain ⟨s, t, h1, h2⟩ := h
  exact ⟨t, s, h2, h1⟩
theorem fc_perm {l l' : List Ev} (h : List.Perm l l') : fc l l.length = fc l' l'.length := Nat.le_antisymm (fc_PB (PB_of h)) (fc_PB (PB_sy (PB_of h)))
theorem nrI_sw {l : List Ev} {a b : Nat} : nrI (l.map swE) a b ↔ nrI l a b := by
  constructor
  · rintro ⟨e, f, h1, h2, h3⟩
    rw [List.getElem?_map] at h1 h2
    obtain ⟨e', k1, k2⟩ := Option.map_eq_some_iff.mp h1
    obtain ⟨f', k3, k4⟩ := Option.map_eq_some_iff.mp h2
    subst k2; subst k4
    exact ⟨e', f', k1, k3, h3.1, h3.2.1, h3.2.2.2.2.1, h3.2.2.2.2.2, h3.2.2.1, h3.2.2.2.1⟩
  · rintro ⟨e, f, h1, h2, h3⟩
    exact ⟨swE e, swE f, by rw [List.getElem?_map, h1]; rfl, by rw [List.getElem?_map, h2]; rfl, h3.1, h3.2.1, h3.2.2.2.2.1, h3.2.2.2.2.2, h3.2.2.1, h3.2.2.2.1⟩
theorem Cn_sw {l : List Ev} {a b : Nat} : Cn (l.map swE) a b ↔ Cn l a b := ⟨fun h S h1 h2 => h S h1 (fun x y hx hxy => h2 x y hx (nrI_sw.mp hxy)), fun h S h1 h2 => h S h1 (fun x y hx hxy => h2 x y hx (nrI_sw.mpr hxy))⟩
theorem fst_sw {l : List Ev} {a : Nat} : fst (l.map swE) a ↔ fst l a := ⟨fun h b hb hc => h b hb (Cn_sw.mpr hc), fun h b hb hc => h b hb (Cn_sw.mp hc)⟩
noncomputable def NSn (p q : Nat → Int) : Nat := if 100 < (ML p q).length then 101 else fc (ML p q) (ML p q).length
theorem NSn_sy (p q : Nat → Int) : NSn p q = NSn q p := by
  have h : List.Perm (ML q p) ((ML p q).map swE) := mts_sy 5 1 1
  have hl : (ML q p).length = (ML p q).length := by rw [h.length_eq, List.length_map]
  have hf : fc (ML q p) (ML q p).length = fc (ML p q) (ML p q).length := by
    rw [fc_perm h, List.length_map, fc_cnS, fc_cnS]
    exact cnS_to _ (fun a _ => fst_sw)
  unfold NSn
  rw [hf, hl]
theorem NSn_le (p q : Nat → Int) : NSn p q ≤ 101 := by
  unfold NSn
  split
  · exact Nat.le_refl _
  · have := fc_le (ML p q) (ML p q).length
    omega
/-- the component's table of spots -/
def KV (n : Nat) (P : Nat → Nat → Int) (M : zMem) : Prop := ∀ a b, a < 4 → b < 4 → a < n → b < n → a ≠ b → M.1 46 (4 * a + b) = iI (-1) ∨ M.1 46 (4 * a + b) = iI (NSn (P a) (P b) : Int)
theorem t_X3_countSpots {N n a b : Nat} {P : Nat → Nat → Int} {M : zMem} {Q : Int32 → zMem → Prop} (hN : 300 ≤ N) (hn : n ≤ 4) (ha : a < n) (hb : b < n) (hA : ∀ k, k < n → RA (P k) (5 + 6 * k) M) (hC : CV n P M) (hK : KV n P M) (hQ0 : a = b → Q (iI 0) M) (hQ : a ≠ b → ∀ M', fz 38 46 M M' → CV n P M' → KV n P M' → Q (iI (NSn (P a) (P b) : Int)) M') : f_X3_countSpots N (iI (a : Int)) (iI (b : Int)) M Q := by
  unfold f_X3_countSpots
  have e1 : (4 : Int32) * iI (a : Int) + iI (b : Int) = iI ((4 * a + b : Nat) : Int) := by rw [iI_4, iI_mul, iI_add]; congr 1 <;> omega
  have e2 : (4 : Int32) * iI (b : Int) + iI (a : Int) = iI ((4 * b + a : Nat) : Int) := by rw [iI_4, iI_mul, iI_add]; congr 1 <;> omega
  have hns := NSn_le (P a) (P b)
  have v1 : vp_in (iI ((4 * a + b : Nat) : Int)) 16 := iI_in0 (by omega) (by omega) (by decide)
  have v2 : vp_in (iI ((4 * b + a : Nat) : Int)) 16 := iI_in0 (by omega) (by omega) (by decide)
  rw [e1]
  refine ⟨fun w => ?_, fun w => ?_⟩
  · have hab : a ≠ b := fun e => w (by rw [e])
    have rd : ∀ M' : zMem, zrd M' 46 (iI ((4 * a + b : Nat) : Int)) = M'.1 46 (4 * a + b) := fun M' => by rw [zrd_iI (by omega) (by omega), show (((4 * a + b : Nat)) : Int).toNat = 4 * a + b by omega]
    have b70 : ∀ M', fz 38 46 M M' → CV n P M' → KV n P M' → M'.1 46 (4 * a + b) = iI (NSn (P a) (P b) : Int) → f_X3_countSpots_b70 N (iI (a : Int)) (iI (b : Int)) M' Q := by
      intro M' q1 q2 q3 q4
      unfold f_X3_countSpots_b70
      rw [e1, rd, q4]
      exact ⟨v1, hQ hab M' q1 q2 q3⟩
    refine ⟨v1, ?_⟩
    rw [rd]
    refine ⟨fun w2 => ?_, fun w2 => ?_⟩
    · rcases hK a b (by omega) (by omega) ha hb hab with h | h
      · rw [h] at w2; exact absurd rfl w2
      · exact b70 M fz.rf hC hK h
    · refine t_X3_find hN hn ha hb hA hC ?_
      intro M2 f2 k2 c2 x2
      have b44 : ∀ s, s = iI (NSn (P a) (P b) : Int) → f_X3_countSpots_b44 N (iI (a : Int)) (iI (b : Int)) s M2 Q := by
        intro s hs
        unfold f_X3_countSpots_b44
        rw [e1, e2]
        refine ⟨v1, fun M5 g5 => ⟨v2, fun M6 g6 => ?_⟩⟩
        rw [zst_iI (by omega) (by omega), show (((4 * a + b : Nat)) : Int).toNat = 4 * a + b by omega] at g5
        rw [zst_iI (by omega) (by omega), show (((4 * b + a : Nat)) : Int).toNat = 4 * b + a by omega] at g6
        have f6 : fs (fun c _ => c = 46) M2 M6 := by subst g5; subst g6; exact fs.tr (S := fun c _ => c = 46) (fs_wI (S := fun c _ => c = 46) rfl) (fs_wI (S := fun c _ => c = 46) rfl)
        have x6 : ∀ c, c ≠ 46 → ∀ k, M6.1 c k = M2.1 c k := fun c hc k => f6.2 c k hc
        refine b70 M6 (f2.tr (fs_fz f6 (fun c k h => by omega))) ?_ ?_ ?_
        · have tr : ∀ p q, FDx p q M2 → FDx p q M6 := by
            intro p q h
            rcases h with h | h
            · exact Or.inl ⟨h.1, (x6 38 (by decide) 5).trans h.2⟩
            · refine Or.inr ⟨MC_fs h.1 f6 (by decide) (fun c k _ _ => by omega), (x6 38 (by decide) 6).trans h.2.1, ⟨fun k hk => (x6 43 (by decide) k).trans (h.2.2.1.1 k hk), (x6 38 (by decide) 7).trans h.2.2.1.2⟩, fun k hk v hv => ?_⟩
              obtain ⟨y, y1, y2⟩ := h.2.2.2 k hk v hv
              exact ⟨y, (x6 44 (by decide) _).trans y1, y2⟩
          rcases c2 with c2 | ⟨a', b', c2, c3, c4, c5, c6⟩
          · exact Or.inl ⟨(x6 38 (by decide) 10).trans c2.1, (x6 38 (by decide) 11).trans c2.2⟩
          · exact Or.inr ⟨a', b', c2, c3, (x6 38 (by decide) 10).trans c4, (x6 38 (by decide) 11).trans c5, tr _ _ c6⟩
        · intro a' b' ha' hb' hn1 hn2 hab'
          by_cases q1 : 4 * a' + b' = 4 * b + a
          · obtain rfl : a' = b := by omega
            obtain rfl : b' = a := by omega
            refine Or.inr ?_
            subst g6
            rw [zwI_1, if_pos ⟨rfl, rfl⟩, hs, NSn_sy]
          · by_cases q2 : 4 * a' + b' = 4 * a + b
            · obtain rfl : a' = a := by omega
              obtain rfl : b' = b := by omega
              refine Or.inr ?_
              subst g6
              rw [zwI_1, if_neg (by omega)]
              subst g5
              rw [zwI_1, if_pos ⟨rfl, rfl⟩, hs]
            · have e : M6.1 46 (4 * a' + b') = M.1 46 (4 * a' + b') := by
                subst g6
                rw [zwI_1, if_neg (by omega)]
                subst g5
                rw [zwI_1, if_neg (by omega), k2]
              rw [e]
              exact hK a' b' ha' hb' hn1 hn2 hab'
        · subst g6
          rw [zwI_1]
          split
          · exact hs
          · subst g5
            rw [zwI_1, if_pos ⟨rfl, rfl⟩]
            exact hs
      rcases x2 with x2 | x2
      · refine t_X3_isOver x2.2 (by decide) (by decide) (fun _ => ?_) (fun h => by omega)
        refine ⟨fun e => absurd e (by decide), fun _ => b44 101 ?_⟩
        unfold NSn
        rw [if_pos x2.1]
        rfl
      · have hl := x2.1.2.1
        refine t_X3_isOver x2.1.1 (by omega) (by omega) (fun h => by omega) (fun _ => ?_)
        refine ⟨fun _ => b44 _ ?_, fun e => absurd rfl e⟩
        rw [x2.2.2.1.2]
        unfold NSn
        rw [if_neg (by omega)]
  · simp (disch := omega) only [iI_m1, iI_0, iI_1, iI_2, iI_3, iI_4, iI_5, iI_6, iI_7, iI_8, iI_9, iI_10, iI_11, iI_12, iI_13, iI_16, iI_18, iI_20, iI_24, iI_31, iI_32, iI_33, iI_36, iI_48, iI_57, iI_59, iI_63, iI_64, iI_97, iI_100, iI_101, iI_130, iI_255, iI_256, iI_512, iI_1000, iI_1009, iI_2000, iI_2048, iI_32768, iI_2147483647, iI_add, iI_sub, iI_mul, iI_neg, iI_lt, iI_le, iI_eq, iI_in] at w
    exact hQ0 (by omega)
theorem t_X8_spotsOf {N n a b : Nat} {P : Nat → Nat → Int} {M : zMem} {Q : Int32 → zMem → Prop} (hN : 10000 ≤ N) (hR : RRl n P M) (ha : a < n) (hb : b < n) (hQ0 : a = b → Q (iI 0) M) (hQ : a ≠ b → ∀ M', fs rSet M M' → RRl n P M' → Q (iI (NSn (P a) (P b) : Int)) M') : f_X8_spotsOf N (iI (a : Int)) (iI (b : Int)) M Q := by
  unfold f_X8_spotsOf
  have hn := hR.1.1
  refine ⟨fun w => ?_, fun w => ?_⟩
  · have hab : a ≠ b := fun e => w (by rw [e])
    refine t_X8_meet hN hR ha hb (fun h M' q1 q2 => ?_) (fun M' sp q1 q2 _ q3 q4 q5 q6 => ?_)
    · refine ⟨fun _ => ?_, fun e => absurd rfl e⟩
      have := hQ hab M' q1 q2
      unfold NSn at this
      rw [if_pos h] at this
      exact this
    · refine ⟨fun e => absurd e (by decide), fun _ => ?_⟩
      have := hQ hab M' q1 q2
      have hl := q3.2.1
      unfold NSn at this
      rw [if_neg (by omega)] at this
      rw [q6]
      exact this
  · simp (disch := omega) only [iI_m1, iI_0, iI_1, iI_2, iI_3, iI_4, iI_5, iI_6, iI_7, iI_8, iI_9, iI_10, iI_11, iI_12, iI_13, iI_16, iI_18, iI_20, iI_24, iI_31, iI_32, iI_33, iI_36, iI_48, iI_57, iI_59, iI_63, iI_64, iI_97, iI_100, iI_101, iI_130, iI_255, iI_256, iI_512, iI_1000, iI_1009, iI_2000, iI_2048, iI_32768, iI_2147483647, iI_add, iI_sub, iI_mul, iI_neg, iI_lt, iI_le, iI_eq, iI_in] at w
    exact hQ0 (by omega)
