/-! ===== more numbers ===== -/
theorem iI_9 : (9 : Int32) = iI 9 := rfl
theorem iI_10 : (10 : Int32) = iI 10 := rfl
theorem iI_11 : (11 : Int32) = iI 11 := rfl
theorem iI_12 : (12 : Int32) = iI 12 := rfl
theorem iI_13 : (13 : Int32) = iI 13 := rfl
theorem iI_16 : (16 : Int32) = iI 16 := rfl
theorem iI_18 : (18 : Int32) = iI 18 := rfl
theorem iI_20 : (20 : Int32) = iI 20 := rfl
theorem iI_24 : (24 : Int32) = iI 24 := rfl
theorem iI_31 : (31 : Int32) = iI 31 := rfl
theorem iI_32 : (32 : Int32) = iI 32 := rfl
theorem iI_33 : (33 : Int32) = iI 33 := rfl
theorem iI_36 : (36 : Int32) = iI 36 := rfl
theorem iI_48 : (48 : Int32) = iI 48 := rfl
theorem iI_57 : (57 : Int32) = iI 57 := rfl
theorem iI_59 : (59 : Int32) = iI 59 := rfl
theorem iI_63 : (63 : Int32) = iI 63 := rfl
theorem iI_64 : (64 : Int32) = iI 64 := rfl
theorem iI_97 : (97 : Int32) = iI 97 := rfl
theorem iI_100 : (100 : Int32) = iI 100 := rfl
theorem iI_101 : (101 : Int32) = iI 101 := rfl
theorem iI_130 : (130 : Int32) = iI 130 := rfl
theorem iI_255 : (255 : Int32) = iI 255 := rfl
theorem iI_256 : (256 : Int32) = iI 256 := rfl
theorem iI_512 : (512 : Int32) = iI 512 := rfl
theorem iI_1000 : (1000 : Int32) = iI 1000 := rfl
theorem iI_1009 : (1009 : Int32) = iI 1009 := rfl
theorem iI_2000 : (2000 : Int32) = iI 2000 := rfl
theorem iI_2048 : (2048 : Int32) = iI 2048 := rfl
theorem iI_32768 : (32768 : Int32) = iI 32768 := rfl
theorem iI_2147483647 : (2147483647 : Int32) = iI 2147483647 := rfl
/-! ===== sides, bands, boxes, steps ===== -/
def sd (p : Nat → Int) (m : Nat) (q : Nat → Int) (n i : Nat) : Int := (nd p m 3 0 - nd p m 0 0) * (nd q n i 1 - nd p m 0 1) - (nd p m 3 1 - nd p m 0 1) * (nd q n i 0 - nd p m 0 0)
def mnI (x y : Int) : Int := if y < x then y else x
def mxI (x y : Int) : Int := if x < y then y else x
def bL (p : Nat → Int) (m : Nat) : Int := mnI (mnI 0 (sd p m p m 1)) (sd p m p m 2)
def bH (p : Nat → Int) (m : Nat) : Int := mxI (mxI 0 (sd p m p m 1)) (sd p m p m 2)
def bn (p : Nat → Int) (m ax : Nat) : Int := mnI (mnI (mnI (nd p m 0 ax) (nd p m 1 ax)) (nd p m 2 ax)) (nd p m 3 ax)
def bx (p : Nat → Int) (m ax : Nat) : Int := mxI (mxI (mxI (nd p m 0 ax) (nd p m 1 ax)) (nd p m 2 ax)) (nd p m 3 ax)
theorem mul_bd {x y A B : Int} (hA : 0 ≤ A) (hx : -A ≤ x ∧ x ≤ A) (hy : -B ≤ y ∧ y ≤ B) : -(A * B) ≤ x * y ∧ x * y ≤ A * B := by
  have hB : 0 ≤ B := by omega
  rcases Int.le_total 0 x with h | h
  · have a1 := Int.mul_le_mul_of_nonneg_left hy.2 h
    have a2 := Int.mul_le_mul_of_nonneg_left hy.1 h
    have a3 := Int.mul_le_mul_of_nonneg_right hx.2 hB
    rw [Int.mul_neg] at a2
    omega
  · have a1 := Int.mul_le_mul_of_nonneg_left hy.2 (show 0 ≤ -x by omega)
    have a2 := Int.mul_le_mul_of_nonneg_left hy.1 (show 0 ≤ -x by omega)
    have a3 := Int.mul_le_mul_of_nonneg_right (show -x ≤ A by omega) hB
    simp only [Int.neg_mul, Int.mul_neg, Int.neg_neg] at a1 a2 a3
    omega
theorem sd_bd {p q : Nat → Int} (hp : pOk p) (hq : pOk q) {m n i : Nat} (h1 : 1 ≤ m) (h2 : m < 64) (h3 : 1 ≤ n) (h4 : n < 64) : -695784701952 ≤ sd p m q n i ∧ sd p m q n i ≤ 695784701952 := by
  have a0 := nd_bd hp (i := 0) (ax := 0) h1 h2 (by decide)
  have a1 := nd_bd hp (i := 0) (ax := 1) h1 h2 (by decide)
  have b0 := nd_bd hp (i := 3) (ax := 0) h1 h2 (by decide)
  have b1 := nd_bd hp (i := 3) (ax := 1) h1 h2 (by decide)
  have c0 := nd_bd hq (i := i) (ax := 0) h3 h4 (by decide)
  have c1 := nd_bd hq (i := i) (ax := 1) h3 h4 (by decide)
  have d1 := mul_bd (x := nd p m 3 0 - nd p m 0 0) (y := nd q n i 1 - nd p m 0 1) (A := 589824) (B := 589824) (by decide) (by omega) (by omega)
  have d2 := mul_bd (x := nd p m 3 1 - nd p m 0 1) (y := nd q n i 0 - nd p m 0 0) (A := 589824) (B := 589824) (by decide) (by omega) (by omega)
  unfold sd
  omega
theorem bL_bd {p : Nat → Int} (hp : pOk p) {m : Nat} (h1 : 1 ≤ m) (h2 : m < 64) : -695784701952 ≤ bL p m ∧ bL p m ≤ 0 := by
  have a := sd_bd hp hp (i := 1) h1 h2 h1 h2
  have b := sd_bd hp hp (i := 2) h1 h2 h1 h2
  unfold bL mnI
  repeat' split
  all_goals omega
theorem bH_bd {p : Nat → Int} (hp : pOk p) {m : Nat} (h1 : 1 ≤ m) (h2 : m < 64) : 0 ≤ bH p m ∧ bH p m ≤ 695784701952 := by
  have a := sd_bd hp hp (i := 1) h1 h2 h1 h2
  have b := sd_bd hp hp (i := 2) h1 h2 h1 h2
  unfold bH mxI
  repeat' split
  all_goals omega
theorem bn_bd {p : Nat → Int} (hp : pOk p) {m ax : Nat} (h1 : 1 ≤ m) (h2 : m < 64) (hax : ax < 2) : -294912 ≤ bn p m ax ∧ bn p m ax ≤ 294912 := by
  have a0 := nd_bd hp (i := 0) h1 h2 hax
  have a1 := nd_bd hp (i := 1) h1 h2 hax
  have a2 := nd_bd hp (i := 2) h1 h2 hax
  have a3 := nd_bd hp (i := 3) h1 h2 hax
  unfold bn mnI
  repeat' split
  all_goals omega
theorem bx_bd {p : Nat → Int} (hp : pOk p) {m ax : Nat} (h1 : 1 ≤ m) (h2 : m < 64) (hax : ax < 2) : -294912 ≤ bx p m ax ∧ bx p m ax ≤ 294912 := by
  have a0 := nd_bd hp (i := 0) h1 h2 hax
  have a1 := nd_bd hp (i := 1) h1 h2 hax
  have a2 := nd_bd hp (i := 2) h1 h2 hax
  have a3 := nd_bd hp (i := 3) h1 h2 hax
  unfold bx mxI
  repeat' split
  all_goals omega
/-! ===== what an arc's cells hold ===== -/
/-- only the cells lo to hi may differ -/
def fz (lo hi : Nat) (M M' : zMem) : Prop := ∀ c, (c < lo ∨ hi < c) → M'.1 c = M.1 c ∧ M'.2 c = M.2 c
theorem fz.rf {lo hi : Nat} {M : zMem} : fz lo hi M M := fun _ _ => ⟨rfl, rfl⟩
theorem fz.tr {lo hi : Nat} {M M1 M2 : zMem} (h1 : fz lo hi M M1) (h2 : fz lo hi M1 M2) : fz lo hi M M2 := fun c h => ⟨(h2 c h).1.trans (h1 c h).1, (h2 c h).2.trans (h1 c h).2⟩
theorem fz.wide {lo hi lo' hi' : Nat} {M M' : zMem} (h : fz lo hi M M') (h1 : lo' ≤ lo) (h2 : hi ≤ hi') : fz lo' hi' M M' := fun c hc => h c (by omega)
theorem fz_wI {lo hi : Nat} {M : zMem} {c k : Nat} {v : Int32} (h1 : lo ≤ c) (h2 : c ≤ hi) : fz lo hi M (zwI M c k v) := fun a ha => ⟨zwI_o (by omega), rfl⟩
theorem fz_wJ {lo hi : Nat} {M : zMem} {c k : Nat} {v : Int64} (h1 : lo ≤ c) (h2 : c ≤ hi) : fz lo hi M (zwJ M c k v) := fun a ha => ⟨rfl, zwJ_o (by omega)⟩
theorem fz_cp {lo hi : Nat} {M : zMem} {c0 c1 sp dp n : Nat} (h1 : lo ≤ c1) (h2 : c1 ≤ hi) : fz lo hi M (zcp M c0 c1 sp dp n) := fun a ha => ⟨zcp_o (by omega), rfl⟩
def RT (p : Nat → Int) (a : Nat) (M : zMem) : Prop := ∀ k, k < 8 → M.1 (a + 1) k = iI (p k)
def RN (p : Nat → Int) (a m : Nat) (M : zMem) : Prop := ∀ i ax, i < 4 → ax < 2 → M.1 (a + 2) (8 * m + 2 * i + ax) = iI (nd p m i ax)
def RB (p : Nat → Int) (a m ax : Nat) (M : zMem) : Prop := M.1 (a + 3) (4 * m + 2 * ax) = iI (bn p m ax) ∧ M.1 (a + 3) (4 * m + 2 * ax + 1) = iI (bx p m ax)
def RD (p : Nat → Int) (a m : Nat) (M : zMem) : Prop := M.2 (a + 4) m = lI (bL p m) ∧ M.2 (a + 5) m = lI (bH p m)
def RA (p : Nat → Int) (a : Nat) (M : zMem) : Prop := pOk p ∧ RT p a M ∧ (∀ m, 1 ≤ m → m < 64 → RN p a m M) ∧ (∀ m ax, 1 ≤ m → m < 64 → ax < 2 → RB p a m ax M) ∧ ∀ m, 1 ≤ m → m < 64 → RD p a m M
theorem RT.fz {p : Nat → Int} {a lo hi : Nat} {M M' : zMem} (h : RT p a M) (hf : fz lo hi M M') (h1 : a + 1 < lo ∨ hi < a + 1) : RT p a M' := fun k hk => by rw [(hf _ h1).1]; exact h k hk
theorem RN.fz {p : Nat → Int} {a m lo hi : Nat} {M M' : zMem} (h : RN p a m M) (hf : fz lo hi M M') (h1 : a + 2 < lo ∨ hi < a + 2) : RN p a m M' := fun i ax hi ha => by rw [(hf _ h1).1]; exact h i ax hi ha
theorem RB.fz {p : Nat → Int} {a m ax lo hi : Nat} {M M' : zMem} (h : RB p a m ax M) (hf : fz lo hi M M') (h1 : a + 3 < lo ∨ hi < a + 3) : RB p a m ax M' := by unfold RB; rw [(hf _ h1).1]; exact h
theorem RD.fz {p : Nat → Int} {a m lo hi : Nat} {M M' : zMem} (h : RD p a m M) (hf : fz lo hi M M') (h1 : a + 4 < lo ∨ hi < a + 4) (h2 : a + 5 < lo ∨ hi < a + 5) : RD p a m M' := by unfold RD; rw [(hf _ h1).2, (hf _ h2).2]; exact h
theorem RA.fz {p : Nat → Int} {a lo hi : Nat} {M M' : zMem} (h : RA p a M) (hf : fz lo hi M M') (h1 : a + 5 < lo ∨ hi < a + 1) : RA p a M' :=
  ⟨h.1, h.2.1.fz hf (by omega), fun m x y => (h.2.2.1 m x y).fz hf (by omega), fun m ax x y z => (h.2.2.2.1 m ax x y z).fz hf (by omega), fun m x y => (h.2.2.2.2 m x y).fz hf (by omega) (by omega)⟩
/-! ===== reads of an arc ===== -/
theorem t_X0_at {N a m i ax : Nat} {p : Nat → Int} {M : zMem} {Q : Int32 → zMem → Prop} (hm : m < 64) (hi : i < 4) (hax : ax < 2) (hR : RN p a m M) (hQ : Q (iI (nd p m i ax)) M) : f_X0_at N a (iI m) (iI i) (iI ax) M Q := by
  unfold f_X0_at
  simp (disch := omega) only [zrd_iI, iI_m1, iI_0, iI_1, iI_2, iI_3, iI_4, iI_5, iI_6, iI_7, iI_8, iI_9, iI_10, iI_11, iI_12, iI_13, iI_16, iI_18, iI_20, iI_24, iI_31, iI_32, iI_33, iI_36, iI_48, iI_57, iI_59, iI_63, iI_64, iI_97, iI_100, iI_101, iI_130, iI_255, iI_256, iI_512, iI_1000, iI_1009, iI_2000, iI_2048, iI_32768, iI_2147483647, iI_add, iI_sub, iI_mul, iI_neg, iI_lt, iI_le, iI_eq, iI_in]
  rw [show ((m : Int) * 8 + 2 * (i : Int) + (ax : Int)).toNat = 8 * m + 2 * i + ax by omega, hR i ax hi hax]
  exact ⟨by omega, hQ⟩
theorem t_X0_step {N a m i ax : Nat} {p : Nat → Int} {M : zMem} {Q : Int32 → zMem → Prop} (hm : m < 64) (hi : i < 3) (hax : ax < 2) (hR : RN p a m M) (hQ : Q (iI (nd p m (i + 1) ax - nd p m i ax)) M) : f_X0_step N a (iI m) (iI i) (iI ax) M Q := by
  unfold f_X0_step
  intro v hv
  subst hv
  simp (disch := omega) only [zrd_iI, iI_m1, iI_0, iI_1, iI_2, iI_3, iI_4, iI_5, iI_6, iI_7, iI_8, iI_9, iI_10, iI_11, iI_12, iI_13, iI_16, iI_18, iI_20, iI_24, iI_31, iI_32, iI_33, iI_36, iI_48, iI_57, iI_59, iI_63, iI_64, iI_97, iI_100, iI_101, iI_130, iI_255, iI_256, iI_512, iI_1000, iI_1009, iI_2000, iI_2048, iI_32768, iI_2147483647, iI_add, iI_sub, iI_mul, iI_neg, iI_lt, iI_le, iI_eq, iI_in]
  rw [show ((m : Int) * 8 + 2 * (i : Int) + (ax : Int) + 2).toNat = 8 * m + 2 * (i + 1) + ax by omega, show ((m : Int) * 8 + 2 * (i : Int) + (ax : Int)).toNat = 8 * m + 2 * i + ax by omega, hR i ax (by omega) hax, hR (i + 1) ax (by omega) hax, iI_sub]
  exact ⟨by omega, by omega, hQ⟩
theorem t_X0_least {N a m ax : Nat} {p : Nat → Int} {M : zMem} {Q : Int32 → zMem → Prop} (hm : m < 64) (hax : ax < 2) (hR : RB p a m ax M) (hQ : Q (iI (bn p m ax)) M) : f_X0_least N a (iI m) (iI ax) M Q := by
  unfold f_X0_least
  simp (disch := omega) only [zrd_iI, iI_m1, iI_0, iI_1, iI_2, iI_3, iI_4, iI_5, iI_6, iI_7, iI_8, iI_9, iI_10, iI_11, iI_12, iI_13, iI_16, iI_18, iI_20, iI_24, iI_31, iI_32, iI_33, iI_36, iI_48, iI_57, iI_59, iI_63, iI_64, iI_97, iI_100, iI_101, iI_130, iI_255, iI_256, iI_512, iI_1000, iI_1009, iI_2000, iI_2048, iI_32768, iI_2147483647, iI_add, iI_sub, iI_mul, iI_neg, iI_lt, iI_le, iI_eq, iI_in]
  rw [show (4 * (m : Int) + 2 * (ax : Int)).toNat = 4 * m + 2 * ax by omega, hR.1]
  exact ⟨by omega, hQ⟩
theorem t_X0_greatest {N a m ax : Nat} {p : Nat → Int} {M : zMem} {Q : Int32 → zMem → Prop} (hm : m < 64) (hax : ax < 2) (hR : RB p a m ax M) (hQ : Q (iI (bx p m ax)) M) : f_X0_greatest N a (iI m) (iI ax) M Q := by
  unfold f_X0_greatest
  simp (disch := omega) only [zrd_iI, iI_m1, iI_0, iI_1, iI_2, iI_3, iI_4, iI_5, iI_6, iI_7, iI_8, iI_9, iI_10, iI_11, iI_12, iI_13, iI_16, iI_18, iI_20, iI_24, iI_31, iI_32, iI_33, iI_36, iI_48, iI_57, iI_59, iI_63, iI_64, iI_97, iI_100, iI_101, iI_130, iI_255, iI_256, iI_512, iI_1000, iI_1009, iI_2000, iI_2048, iI_32768, iI_2147483647, iI_add, iI_sub, iI_mul, iI_neg, iI_lt, iI_le, iI_eq, iI_in]
  rw [show (4 * (m : Int) + 2 * (ax : Int) + 1).toNat = 4 * m + 2 * ax + 1 by omega, hR.2]
  exact ⟨by omega, hQ⟩
theorem t_X4_side {N a b m n i : Nat} {p q : Nat → Int} {M : zMem} {Q : Int64 → zMem → Prop} (hp : pOk p) (hq : pOk q) (h1 : 1 ≤ m) (h2 : m < 64) (h3 : 1 ≤ n) (h4 : n < 64) (hi : i < 4) (hR : RN p a m M) (hR2 : RN q b n M) (hQ : Q (lI (sd p m q n i)) M) : f_X4_side N a (iI m) b (iI n) (iI i) M Q := by
  unfold f_X4_side
  intro v1 e1 v2 e2 v3 e3
  simp (disch := omega) only [iI_m1, iI_0, iI_1, iI_2, iI_3, iI_4, iI_5, iI_6, iI_7, iI_8, iI_9, iI_10, iI_11, iI_12, iI_13, iI_16, iI_18, iI_20, iI_24, iI_31, iI_32, iI_33, iI_36, iI_48, iI_57, iI_59, iI_63, iI_64, iI_97, iI_100, iI_101, iI_130, iI_255, iI_256, iI_512, iI_1000, iI_1009, iI_2000, iI_2048, iI_32768, iI_2147483647, iI_add, iI_sub, iI_mul, iI_neg, iI_lt, iI_le, iI_eq, iI_in] at e1 e2 e3
  subst e1; subst e2; subst e3
  simp (disch := omega) only [zrd_iI, iI_m1, iI_0, iI_1, iI_2, iI_3, iI_4, iI_5, iI_6, iI_7, iI_8, iI_9, iI_10, iI_11, iI_12, iI_13, iI_16, iI_18, iI_20, iI_24, iI_31, iI_32, iI_33, iI_36, iI_48, iI_57, iI_59, iI_63, iI_64, iI_97, iI_100, iI_101, iI_130, iI_255, iI_256, iI_512, iI_1000, iI_1009, iI_2000, iI_2048, iI_32768, iI_2147483647, iI_add, iI_sub, iI_mul, iI_neg, iI_lt, iI_le, iI_eq, iI_in]
  rw [show ((m : Int) * 8).toNat = 8 * m + 2 * 0 + 0 by omega, show ((m : Int) * 8 + 1).toNat = 8 * m + 2 * 0 + 1 by omega, show ((m : Int) * 8 + 8 - 2).toNat = 8 * m + 2 * 3 + 0 by omega, show ((m : Int) * 8 + 8 - 2 + 1).toNat = 8 * m + 2 * 3 + 1 by omega, show ((n : Int) * 8 + 2 * (i : Int) + 1).toNat = 8 * n + 2 * i + 1 by omega, show ((n : Int) * 8 + 2 * (i : Int)).toNat = 8 * n + 2 * i + 0 by omega]
  rw [hR 0 0 (by decide) (by decide), hR 0 1 (by decide) (by decide), hR 3 0 (by decide) (by decide), hR 3 1 (by decide) (by decide), hR2 i 0 hi (by decide), hR2 i 1 hi (by decide)]
  have a0 := nd_bd hp (i := 0) (ax := 0) h1 h2 (by decide)
  have a1 := nd_bd hp (i := 0) (ax := 1) h1 h2 (by decide)
  have b0 := nd_bd hp (i := 3) (ax := 0) h1 h2 (by decide)
  have b1 := nd_bd hp (i := 3) (ax := 1) h1 h2 (by decide)
  have c0 := nd_bd hq (i := i) (ax := 0) h3 h4 (by decide)
  have c1 := nd_bd hq (i := i) (ax := 1) h3 h4 (by decide)
  refine ⟨by omega, fun v4 e4 => ?_⟩
  subst e4
  refine ⟨by omega, fun v5 e5 => ?_⟩
  subst e5
  refine ⟨by omega, fun v6 e6 => ?_⟩
  subst e6
  refine ⟨by omega, fun v7 e7 => ?_⟩
  subst e7
  refine ⟨by omega, by omega, ?_⟩
  simp (disch := omega) only [iI_sub, iI_l, lI_mul, lI_sub]
  exact hQ
