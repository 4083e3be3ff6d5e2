/-! ===== geometry: nodes, sides, bands, boxes, steps, in whole numbers ===== -/
def wd (m : Nat) : Nat := if m < 2 then 32 else if m < 4 then 16 else if m < 8 then 8 else if m < 16 then 4 else if m < 32 then 2 else 1
def dpt (m : Nat) : Nat := if m < 2 then 0 else if m < 4 then 1 else if m < 8 then 2 else if m < 16 then 3 else if m < 32 then 4 else 5
def fr (m : Nat) : Int := (m : Int) * wd m - 32
def tt (m : Nat) : Int := fr m + wd m
def lp (t x y : Int) : Int := (32 - t) * x + t * y
def bl (p : Nat → Int) (ax : Nat) (u v w : Int) : Int := lp w (lp v (lp u (p ax) (p (2 + ax))) (lp u (p (2 + ax)) (p (4 + ax)))) (lp v (lp u (p (2 + ax)) (p (4 + ax))) (lp u (p (4 + ax)) (p (6 + ax))))
def nd (p : Nat → Int) (m i ax : Nat) : Int := bl p ax (if 0 < i then tt m else fr m) (if 1 < i then tt m else fr m) (if 2 < i then tt m else fr m)
theorem bl_sw1 (p : Nat → Int) (ax : Nat) (u v w : Int) : bl p ax u v w = bl p ax v u w := by unfold bl lp; grind
theorem bl_sw2 (p : Nat → Int) (ax : Nat) (u v w : Int) : bl p ax u v w = bl p ax u w v := by unfold bl lp; grind
theorem bl_mid (p : Nat → Int) (ax : Nat) (a b c v w : Int) (h : a + b = 2 * c) : bl p ax a v w + bl p ax b v w = 2 * bl p ax c v w := by unfold bl lp; grind
theorem fr_kids : ∀ m, m < 32 → 1 ≤ m → fr (2 * m) = fr m ∧ tt (2 * m + 1) = tt m ∧ fr (2 * m + 1) = tt (2 * m) ∧ fr m + tt m = 2 * tt (2 * m) := by decide +kernel
theorem fr_in : ∀ m, m < 64 → 1 ≤ m → 0 ≤ fr m ∧ fr m < tt m ∧ tt m ≤ 32 := by decide +kernel
theorem lp_bd {t x y B : Int} (h0 : 0 ≤ t) (h1 : t ≤ 32) (hx : -B ≤ x ∧ x ≤ B) (hy : -B ≤ y ∧ y ≤ B) : -(32 * B) ≤ lp t x y ∧ lp t x y ≤ 32 * B := by
  have a1 := Int.mul_le_mul_of_nonneg_left hx.2 (show 0 ≤ 32 - t by omega)
  have a2 := Int.mul_le_mul_of_nonneg_left hx.1 (show 0 ≤ 32 - t by omega)
  have b1 := Int.mul_le_mul_of_nonneg_left hy.2 h0
  have b2 := Int.mul_le_mul_of_nonneg_left hy.1 h0
  have e1 : (32 - t) * B + t * B = 32 * B := by rw [← Int.add_mul]; congr 1; omega
  have e2 : (32 - t) * -B + t * -B = -(32 * B) := by rw [← Int.add_mul, Int.mul_neg]; congr 2; omega
  unfold lp
  omega
def pOk (p : Nat → Int) : Prop := ∀ k, k < 8 → -9 ≤ p k ∧ p k ≤ 9
theorem bl_bd {p : Nat → Int} (hp : pOk p) {ax : Nat} (hax : ax < 2) {u v w : Int} (hu : 0 ≤ u ∧ u ≤ 32) (hv : 0 ≤ v ∧ v ≤ 32) (hw : 0 ≤ w ∧ w ≤ 32) : -294912 ≤ bl p ax u v w ∧ bl p ax u v w ≤ 294912 := by
  have h0 := hp ax (by omega)
  have h1 := hp (2 + ax) (by omega)
  have h2 := hp (4 + ax) (by omega)
  have h3 := hp (6 + ax) (by omega)
  have a1 := lp_bd hu.1 hu.2 h0 h1
  have a2 := lp_bd hu.1 hu.2 h1 h2
  have a3 := lp_bd hu.1 hu.2 h2 h3
  have b1 := lp_bd hv.1 hv.2 a1 a2
  have b2 := lp_bd hv.1 hv.2 a2 a3
  have c1 := lp_bd hw.1 hw.2 b1 b2
  unfold bl
  omega
theorem nd_bd {p : Nat → Int} (hp : pOk p) {m i ax : Nat} (h1 : 1 ≤ m) (h2 : m < 64) (hax : ax < 2) : -294912 ≤ nd p m i ax ∧ nd p m i ax ≤ 294912 := by
  have h := fr_in m h2 h1
  unfold nd
  apply bl_bd hp hax <;> split <;> omega
theorem nd_root (p : Nat → Int) {i ax : Nat} (hi : i < 4) : nd p 1 i ax = 32768 * p (2 * i + ax) := by
  have f1 : fr 1 = 0 := by decide
  have t1 : tt 1 = 32 := by decide
  rcases (show i = 0 ∨ i = 1 ∨ i = 2 ∨ i = 3 by omega) with rfl | rfl | rfl | rfl <;> simp [nd, f1, t1, bl, lp] <;> omega
/-- the halves of a node: what the six midpoints are -/
theorem nd_half (p : Nat → Int) {m ax : Nat} (h1 : 1 ≤ m) (h2 : m < 32) : ∃ y : Int, nd p (2 * m) 0 ax = nd p m 0 ax ∧ nd p m 0 ax + nd p m 1 ax = 2 * nd p (2 * m) 1 ax ∧ nd p m 1 ax + nd p m 2 ax = 2 * y ∧ nd p m 2 ax + nd p m 3 ax = 2 * nd p (2 * m + 1) 2 ax ∧ nd p (2 * m) 1 ax + y = 2 * nd p (2 * m) 2 ax ∧ y + nd p (2 * m + 1) 2 ax = 2 * nd p (2 * m + 1) 1 ax ∧ nd p (2 * m) 2 ax + nd p (2 * m + 1) 1 ax = 2 * nd p (2 * m) 3 ax ∧ nd p (2 * m + 1) 0 ax = nd p (2 * m) 3 ax ∧ nd p (2 * m + 1) 3 ax = nd p m 3 ax := by
  obtain ⟨e1, e2, e3, e4⟩ := fr_kids m h2 h1
  refine ⟨bl p ax (tt m) (tt (2 * m)) (fr m), ?_⟩
  simp only [nd, e1, e2, e3]
  simp only [Nat.lt_irrefl, if_false, Nat.not_lt_zero, show (0 : Nat) < 1 from by decide, show (0 : Nat) < 2 from by decide, show (0 : Nat) < 3 from by decide, show (1 : Nat) < 2 from by decide, show (1 : Nat) < 3 from by decide, show (2 : Nat) < 3 from by decide, if_true, show ¬ (2 : Nat) < 1 from by decide, show ¬ (1 : Nat) < 0 from by decide, show ¬ (2 : Nat) < 0 from by decide]
  generalize fr m = a at *
  generalize tt m = b at *
  generalize tt (2 * m) = c at *
  refine ⟨by first | rfl | trivial, bl_mid p ax a b c a a e4, ?_, ?_, ?_, ?_, ?_, by first | (exact ⟨rfl, rfl⟩) | (exact ⟨trivial, trivial⟩) | trivial⟩
  · rw [bl_sw1 p ax b a a, bl_sw1 p ax b b a, bl_sw1 p ax b c a]; exact bl_mid p ax a b c b a e4
  · rw [bl_sw2 p ax b b a, bl_sw1 p ax b a b, bl_sw2 p ax b b c, bl_sw1 p ax b c b]; exact bl_mid p ax a b c b b e4
  · rw [bl_sw1 p ax c a a, bl_sw1 p ax c c a]; exact bl_mid p ax a b c c a e4
  · rw [bl_sw2 p ax b c a, bl_sw1 p ax b a c, bl_sw1 p ax b b c, bl_sw2 p ax b c c, bl_sw1 p ax b c c]; exact bl_mid p ax a b c b c e4
  · rw [bl_sw2 p ax c c a, bl_sw1 p ax c a c]; exact bl_mid p ax a b c c c e4
