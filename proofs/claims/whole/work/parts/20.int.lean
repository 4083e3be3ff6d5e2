/-! ===== numbers: Int32 and Int64 by Int ===== -/
def iI (z : Int) : Int32 := Int32.ofInt z
def lI (z : Int) : Int64 := Int64.ofInt z
theorem iI_add (a b : Int) : iI a + iI b = iI (a + b) := (Int32.ofInt_add a b).symm
theorem iI_sub (a b : Int) : iI a - iI b = iI (a - b) := (Int32.ofInt_sub a b).symm
theorem iI_mul (a b : Int) : iI a * iI b = iI (a * b) := (Int32.ofInt_mul a b).symm
theorem iI_neg (a : Int) : -iI a = iI (-a) := Int32.neg_ofInt
theorem lI_add (a b : Int) : lI a + lI b = lI (a + b) := (Int64.ofInt_add a b).symm
theorem lI_sub (a b : Int) : lI a - lI b = lI (a - b) := (Int64.ofInt_sub a b).symm
theorem lI_mul (a b : Int) : lI a * lI b = lI (a * b) := (Int64.ofInt_mul a b).symm
theorem nI_iI (n : Nat) : nI n = iI n := (Int32.ofInt_eq_ofNat).symm
theorem iI_toInt {z : Int} (h1 : -2147483648 ≤ z) (h2 : z < 2147483648) : (iI z).toInt = z := Int32.toInt_ofInt_of_le h1 h2
theorem lI_toInt {z : Int} (h1 : -9223372036854775808 ≤ z) (h2 : z < 9223372036854775808) : (lI z).toInt = z := Int64.toInt_ofInt_of_le h1 h2
theorem iI_lt {a b : Int} (h1 : -2147483648 ≤ a) (h2 : a < 2147483648) (h3 : -2147483648 ≤ b) (h4 : b < 2147483648) : (iI a < iI b) = (a < b) := by rw [Int32.lt_iff_toInt_lt, iI_toInt h1 h2, iI_toInt h3 h4]
theorem iI_le {a b : Int} (h1 : -2147483648 ≤ a) (h2 : a < 2147483648) (h3 : -2147483648 ≤ b) (h4 : b < 2147483648) : (iI a ≤ iI b) = (a ≤ b) := by rw [Int32.le_iff_toInt_le, iI_toInt h1 h2, iI_toInt h3 h4]
theorem iI_eq {a b : Int} (h1 : -2147483648 ≤ a) (h2 : a < 2147483648) (h3 : -2147483648 ≤ b) (h4 : b < 2147483648) : (iI a = iI b) = (a = b) := by rw [← Int32.toInt_inj, iI_toInt h1 h2, iI_toInt h3 h4]
theorem lI_lt {a b : Int} (h1 : -9223372036854775808 ≤ a) (h2 : a < 9223372036854775808) (h3 : -9223372036854775808 ≤ b) (h4 : b < 9223372036854775808) : (lI a < lI b) = (a < b) := by rw [Int64.lt_iff_toInt_lt, lI_toInt h1 h2, lI_toInt h3 h4]
theorem lI_le {a b : Int} (h1 : -9223372036854775808 ≤ a) (h2 : a < 9223372036854775808) (h3 : -9223372036854775808 ≤ b) (h4 : b < 9223372036854775808) : (lI a ≤ lI b) = (a ≤ b) := by rw [Int64.le_iff_toInt_le, lI_toInt h1 h2, lI_toInt h3 h4]
theorem lI_eq {a b : Int} (h1 : -9223372036854775808 ≤ a) (h2 : a < 9223372036854775808) (h3 : -9223372036854775808 ≤ b) (h4 : b < 9223372036854775808) : (lI a = lI b) = (a = b) := by rw [← Int64.toInt_inj, lI_toInt h1 h2, lI_toInt h3 h4]
theorem iI_of (x : Int32) : ∃ z : Int, -2147483648 ≤ z ∧ z < 2147483648 ∧ x = iI z := ⟨x.toInt, x.le_toInt, x.toInt_lt, (Int32.ofInt_toInt x).symm⟩
theorem iI_cl {z : Int} (h1 : -2147483648 ≤ z) (h2 : z < 2147483648) : (iI z).toNatClampNeg = z.toNat := Int32.toNatClampNeg_ofInt_of_le h1 h2
theorem iI_in {z : Int} {n : Nat} (h1 : -2147483648 ≤ z) (h2 : z < 2147483648) : vp_in (iI z) n = (0 ≤ z ∧ z < n) := by rw [vp_in_iff, iI_toInt h1 h2]
theorem iI_in0 {z : Int} {n : Nat} (h1 : 0 ≤ z) (h2 : z < n) (h3 : n ≤ 4096) : vp_in (iI z) n := by rw [iI_in (by omega) (by omega)]; exact ⟨h1, h2⟩
theorem iI_div {a b : Int} (h1 : -2147483647 ≤ a) (h2 : a < 2147483648) (h3 : 0 < b) (h4 : b < 2147483648) : iI a / iI b = iI (a.tdiv b) := by
  apply Int32.toInt_inj.mp
  have e1 := iI_toInt (z := a) (by omega) h2
  have e2 := iI_toInt (z := b) (by omega) h4
  have hb := Int.natAbs_tdiv_le_natAbs a b
  rw [Int32.toInt_div_of_ne_right _ _ (by intro h; rw [h] at e2; have : (-1 : Int32).toInt = -1 := by decide
                                          omega), e1, e2, iI_toInt (by omega) (by omega)]
theorem iI_l {z : Int} (h1 : -2147483648 ≤ z) (h2 : z < 2147483648) : (iI z).toInt64 = lI z := by
  apply Int64.toInt_inj.mp
  rw [Int32.toInt_toInt64, iI_toInt h1 h2, lI_toInt (by omega) (by omega)]
theorem lI_i (z : Int) : (lI z).toInt32 = iI z := Int64.toInt32_ofInt
theorem iI_m1 : (-1 : Int32) = iI (-1) := rfl
theorem iI_0 : (0 : Int32) = iI 0 := rfl
theorem iI_1 : (1 : Int32) = iI 1 := rfl
theorem iI_2 : (2 : Int32) = iI 2 := rfl
theorem iI_3 : (3 : Int32) = iI 3 := rfl
theorem iI_4 : (4 : Int32) = iI 4 := rfl
theorem iI_5 : (5 : Int32) = iI 5 := rfl
theorem iI_6 : (6 : Int32) = iI 6 := rfl
theorem iI_7 : (7 : Int32) = iI 7 := rfl
theorem iI_8 : (8 : Int32) = iI 8 := rfl
theorem lI_0 : (0 : Int64) = lI 0 := rfl
theorem zrd_iI {M : zMem} {c : Nat} {z : Int} (h1 : 0 ≤ z) (h2 : z < 2147483648) : zrd M c (iI z) = M.1 c z.toNat := by unfold zrd; rw [iI_cl (by omega) h2]
theorem zrdJ_iI {M : zMem} {c : Nat} {z : Int} (h1 : 0 ≤ z) (h2 : z < 2147483648) : zrdJ M c (iI z) = M.2 c z.toNat := by unfold zrdJ; rw [iI_cl (by omega) h2]
theorem zst_iI {M : zMem} {c : Nat} {z : Int} {v : Int32} (h1 : 0 ≤ z) (h2 : z < 2147483648) : zst M c (iI z) v = zwI M c z.toNat v := by unfold zst; rw [iI_cl (by omega) h2]
theorem zstJ_iI {M : zMem} {c : Nat} {z : Int} {v : Int64} (h1 : 0 ≤ z) (h2 : z < 2147483648) : zstJ M c (iI z) v = zwJ M c z.toNat v := by unfold zstJ; rw [iI_cl (by omega) h2]
theorem zwI_1 (M : zMem) (c k : Nat) (v : Int32) (a b : Nat) : (zwI M c k v).1 a b = if a = c ∧ b = k then v else M.1 a b := rfl
theorem zwI_2 (M : zMem) (c k : Nat) (v : Int32) : (zwI M c k v).2 = M.2 := rfl
theorem zwJ_1 (M : zMem) (c k : Nat) (v : Int64) : (zwJ M c k v).1 = M.1 := rfl
theorem zwJ_2 (M : zMem) (c k : Nat) (v : Int64) (a b : Nat) : (zwJ M c k v).2 a b = if a = c ∧ b = k then v else M.2 a b := rfl
theorem zcp_1 (M : zMem) (c0 c1 sp dp n a b : Nat) : (zcp M c0 c1 sp dp n).1 a b = if a = c1 then (if dp ≤ b ∧ b < dp + n then M.1 c0 (sp + (b - dp)) else M.1 c1 b) else M.1 a b := rfl
theorem zcp_2 (M : zMem) (c0 c1 sp dp n : Nat) : (zcp M c0 c1 sp dp n).2 = M.2 := rfl
theorem z_all {α : Type} {e : α} {P : α → Prop} : (∀ v, v = e → P v) = P e := by simp
