/-! ===== memory: ints by (cell, place), longs by (cell, place); fields that are ints stand at (object, place of the field) ===== -/
abbrev zMem : Type := (Nat → Nat → Int32) × (Nat → Nat → Int64)
def zwI (M : zMem) (c k : Nat) (v : Int32) : zMem := (fun a b => if a = c ∧ b = k then v else M.1 a b, M.2)
def zwJ (M : zMem) (c k : Nat) (v : Int64) : zMem := (M.1, fun a b => if a = c ∧ b = k then v else M.2 a b)
def zcp (M : zMem) (c0 c1 sp dp n : Nat) : zMem := (fun a b => if a = c1 then va_cpy (M.1 c0) (M.1 c1) sp dp n b else M.1 a b, M.2)
def zrd (M : zMem) (c : Nat) (i : Int32) : Int32 := M.1 c i.toNatClampNeg
def zrdJ (M : zMem) (c : Nat) (i : Int32) : Int64 := M.2 c i.toNatClampNeg
def zst (M : zMem) (c : Nat) (i : Int32) (v : Int32) : zMem := zwI M c i.toNatClampNeg v
def zstJ (M : zMem) (c : Nat) (i : Int32) (v : Int64) : zMem := zwJ M c i.toNatClampNeg v
def zkL : List Nat := [6, 4, 8, 8, 11, 0, 8, 8, 8, 9, 9, 0, 8, 8, 8, 9, 9, 0, 8, 8, 8, 9, 9, 0, 8, 8, 8, 9, 9, 1, 8, 8, 2, 10, 8, 5, 8, 8, 3, 8, 8, 10, 8, 8, 8, 8, 8, 7, 8, 8, 8, 10, 8, 8, 8, 8, 8, 8, 8, 10, 8, 8, 8]
def zlL : List Nat := [0, 0, 130, 32, 4, 0, 8, 512, 256, 64, 64, 0, 8, 512, 256, 64, 64, 0, 8, 512, 256, 64, 64, 0, 8, 512, 256, 64, 64, 0, 10, 80, 0, 2, 64, 0, 6, 6, 0, 101, 101, 101, 101, 101, 600, 100, 16, 0, 32, 320, 64, 2, 6, 6, 2048, 130, 32, 100, 100, 100, 100, 64, 64]
def zkd (o : Nat) : Nat := zkL.getD o 99
def zln (o : Nat) : Nat := zlL.getD o 0
theorem zkd_lt {o k : Nat} (h : zkd o = k) (hk : k < 99) : o < 63 := by
  rcases Nat.lt_or_ge o 63 with q | q
  · exact q
  · unfold zkd at h
    rw [List.getD_eq_getElem?_getD, List.getElem?_eq_none (show zkL.length ≤ o from q)] at h
    simp at h
    omega
theorem zkd0 {o : Nat} (h : zkd o = 0) : o = 5 ∨ o = 11 ∨ o = 17 ∨ o = 23 := by
  have hl := zkd_lt h (by decide)
  revert h
  revert o
  decide +kernel
theorem zkd0_1 {o : Nat} (h : zkd o = 0) : zkd (o + 1) = 8 ∧ zln (o + 1) = 8 := by rcases zkd0 h with rfl | rfl | rfl | rfl <;> decide +kernel
theorem zkd0_2 {o : Nat} (h : zkd o = 0) : zkd (o + 2) = 8 ∧ zln (o + 2) = 512 := by rcases zkd0 h with rfl | rfl | rfl | rfl <;> decide +kernel
theorem zkd0_3 {o : Nat} (h : zkd o = 0) : zkd (o + 3) = 8 ∧ zln (o + 3) = 256 := by rcases zkd0 h with rfl | rfl | rfl | rfl <;> decide +kernel
theorem zkd0_4 {o : Nat} (h : zkd o = 0) : zkd (o + 4) = 9 ∧ zln (o + 4) = 64 := by rcases zkd0 h with rfl | rfl | rfl | rfl <;> decide +kernel
theorem zkd0_5 {o : Nat} (h : zkd o = 0) : zkd (o + 5) = 9 ∧ zln (o + 5) = 64 := by rcases zkd0 h with rfl | rfl | rfl | rfl <;> decide +kernel
theorem zkdA {i : Nat} (h : i < 4) : zkd (5 + 6 * i) = 0 := by revert h; revert i; decide +kernel
theorem zkdAi {i : Int32} (h : vp_in i 4) : zkd (5 + 6 * i.toNatClampNeg) = 0 := zkdA (Nat.not_le.mp fun q => h (Or.inr q))
/-- the heap's size at the law's entry, class numbers and slots, the array kinds' ids, addresses, the constant row -/
abbrev zG : Type := Nat × va_G × (ClassId × ClassId × ClassId × ClassId) × (Nat → Nat) × Nat
abbrev zA (G : zG) : Nat → Prop := fun q => G.1 ≤ q
abbrev zR (G : zG) (o : Nat) : Value := .ref (G.2.2.2.1 o)
abbrev zRw (G : zG) : Value := .ref G.2.2.2.2
def zaw (j : Nat) : Int32 := ([0, 6, 3, 1, 0, 0, 3, 3, 0, 0, 0, 6, 0, 0, 0, 0] : List Int32).getD j 0

def zfs0 (G : zG) (M : zMem) (o : Nat) : List Value := [zR G (o + 1), zR G (o + 2), zR G (o + 3), zR G (o + 4), zR G (o + 5)]
def zfs1 (G : zG) (M : zMem) (o : Nat) : List Value := [zR G 30, zR G 31, .int (M.1 o 2)]
def zfs2 (G : zG) (M : zMem) (o : Nat) : List Value := [zR G 33, zR G 34]
def zfs3 (G : zG) (M : zMem) (o : Nat) : List Value := [zR G 39, zR G 40, zR G 41, zR G 42, zR G 43, .int (M.1 o 5), .int (M.1 o 6), .int (M.1 o 7), zR G 44, zR G 45, .int (M.1 o 10), .int (M.1 o 11), zR G 46]
def zfs4 (G : zG) (M : zMem) (o : Nat) : List Value := [zR G 2, .int (M.1 o 1), zR G 3, .int (M.1 o 3), .int (M.1 o 4), .int (M.1 o 5)]
def zfs5 (G : zG) (M : zMem) (o : Nat) : List Value := [zR G 36, zR G 37, .int (M.1 o 2)]
def zfs6 (G : zG) (M : zMem) (o : Nat) : List Value := [zR G 1, zR G 4, .int (M.1 o 2), zR G 29, zR G 32, zR G 35, zR G 38]
def zfs7 (G : zG) (M : zMem) (o : Nat) : List Value := [.int (M.1 o 0), .int (M.1 o 1), zR G 48, zR G 49, .int (M.1 o 4), zR G 50, zR G 51, .int (M.1 o 7), zR G 52, zR G 53, zR G 54, .int (M.1 o 11), .int (M.1 o 12), zR G 55, .int (M.1 o 14), .int (M.1 o 15), .int (M.1 o 16), zR G 56, .int (M.1 o 18), .int (M.1 o 19), zR G 57, zR G 58, zR G 59, zR G 60, .int (M.1 o 24), zR G 61, zR G 62, .int (M.1 o 27)]
def zent (G : zG) (M : zMem) (o : Nat) : va_E :=
  if zkd o = 8 then .inl (G.2.2.1.1, zln o, .inl (M.1 o)) else if zkd o = 9 then .inl (G.2.2.1.2.1, zln o, .inr (.inl (M.2 o))) else if zkd o = 10 then .inl (G.2.2.1.2.2.1, zln o, .inl (M.1 o))
  else if zkd o = 11 then .inl (G.2.2.1.2.2.2, 4, .inr (.inr (.inr (.inr (fun k => some (G.2.2.2.1 (5 + 6 * k)))))))
  else if zkd o = 0 then .inr (0, zfs0 G M o)
  else if zkd o = 1 then .inr (1, zfs1 G M o)
  else if zkd o = 2 then .inr (2, zfs2 G M o)
  else if zkd o = 3 then .inr (3, zfs3 G M o)
  else if zkd o = 4 then .inr (4, zfs4 G M o)
  else if zkd o = 5 then .inr (5, zfs5 G M o)
  else if zkd o = 6 then .inr (6, zfs6 G M o)
  else if zkd o = 7 then .inr (7, zfs7 G M o)
  else .inr (0, [])
def zWd (G : zG) (M : zMem) : va_W := (List.range 63).map fun o => (G.2.2.2.1 o, zent G M o)
theorem zent_8 {G : zG} {M : zMem} {o : Nat} (h : zkd o = 8) : zent G M o = .inl (G.2.2.1.1, zln o, .inl (M.1 o)) := by simp [zent, h]
theorem zent_9 {G : zG} {M : zMem} {o : Nat} (h : zkd o = 9) : zent G M o = .inl (G.2.2.1.2.1, zln o, .inr (.inl (M.2 o))) := by simp [zent, h]
theorem zent_10 {G : zG} {M : zMem} {o : Nat} (h : zkd o = 10) : zent G M o = .inl (G.2.2.1.2.2.1, zln o, .inl (M.1 o)) := by simp [zent, h]
theorem zent_11 {G : zG} {M : zMem} {o : Nat} (h : zkd o = 11) : zent G M o = .inl (G.2.2.1.2.2.2, 4, .inr (.inr (.inr (.inr (fun k => some (G.2.2.2.1 (5 + 6 * k))))))) := by simp [zent, h]
theorem zent_0 {G : zG} {M : zMem} {o : Nat} (h : zkd o = 0) : zent G M o = .inr (0, zfs0 G M o) := by simp [zent, h]
theorem zent_1 {G : zG} {M : zMem} {o : Nat} (h : zkd o = 1) : zent G M o = .inr (1, zfs1 G M o) := by simp [zent, h]
theorem zent_2 {G : zG} {M : zMem} {o : Nat} (h : zkd o = 2) : zent G M o = .inr (2, zfs2 G M o) := by simp [zent, h]
theorem zent_3 {G : zG} {M : zMem} {o : Nat} (h : zkd o = 3) : zent G M o = .inr (3, zfs3 G M o) := by simp [zent, h]
theorem zent_4 {G : zG} {M : zMem} {o : Nat} (h : zkd o = 4) : zent G M o = .inr (4, zfs4 G M o) := by simp [zent, h]
theorem zent_5 {G : zG} {M : zMem} {o : Nat} (h : zkd o = 5) : zent G M o = .inr (5, zfs5 G M o) := by simp [zent, h]
theorem zent_6 {G : zG} {M : zMem} {o : Nat} (h : zkd o = 6) : zent G M o = .inr (6, zfs6 G M o) := by simp [zent, h]
theorem zent_7 {G : zG} {M : zMem} {o : Nat} (h : zkd o = 7) : zent G M o = .inr (7, zfs7 G M o) := by simp [zent, h]
theorem zWd_at (G : zG) (M : zMem) {o : Nat} (h : o < 63) : (zWd G M)[o]? = some (G.2.2.2.1 o, zent G M o) := by
  simp [zWd, List.getElem?_map, List.getElem?_range h]
theorem zent_ext {G : zG} {M M' : zMem} {o : Nat} (h1 : M'.1 o = M.1 o) (h2 : M'.2 o = M.2 o) : zent G M' o = zent G M o := by
  simp only [zent, h1, h2, zfs0, zfs1, zfs2, zfs3, zfs4, zfs5, zfs6, zfs7]
theorem zWd_len (G : zG) (M : zMem) : (zWd G M).length = 63 := by simp [zWd]
theorem zWd_set {G : zG} {M M' : zMem} {o : Nat} (h : o < 63) (h1 : ∀ a, a ≠ o → M'.1 a = M.1 a) (h2 : ∀ a, a ≠ o → M'.2 a = M.2 a) : (zWd G M).set o (G.2.2.2.1 o, zent G M' o) = zWd G M' := by
  apply List.ext_getElem?
  intro k
  by_cases hk : k = o
  · subst hk
    rw [List.getElem?_set_self (by rw [zWd_len]; exact h), zWd_at G M' h]
  · rw [List.getElem?_set_ne (Ne.symm hk)]
    by_cases hl : k < 63
    · rw [zWd_at G M hl, zWd_at G M' hl, zent_ext (h1 k hk) (h2 k hk)]
    · rw [List.getElem?_eq_none (by rw [zWd_len]; omega), List.getElem?_eq_none (by rw [zWd_len]; omega)]
theorem zwI_o {M : zMem} {c k : Nat} {v : Int32} {a : Nat} (h : a ≠ c) : (zwI M c k v).1 a = M.1 a := by funext b; simp [zwI, h]
theorem zwI_s {M : zMem} {c k : Nat} {v : Int32} : (zwI M c k v).1 c = upd (M.1 c) k v := by funext b; simp [zwI, upd]
theorem zwJ_o {M : zMem} {c k : Nat} {v : Int64} {a : Nat} (h : a ≠ c) : (zwJ M c k v).2 a = M.2 a := by funext b; simp [zwJ, h]
theorem zwJ_s {M : zMem} {c k : Nat} {v : Int64} : (zwJ M c k v).2 c = vp_updL (M.2 c) k v := by funext b; simp [zwJ, vp_updL]
theorem zcp_o {M : zMem} {c0 c1 sp dp n : Nat} {a : Nat} (h : a ≠ c1) : (zcp M c0 c1 sp dp n).1 a = M.1 a := by funext b; simp [zcp, h]
theorem zcp_s {M : zMem} {c0 c1 sp dp n : Nat} : (zcp M c0 c1 sp dp n).1 c1 = va_cpy (M.1 c0) (M.1 c1) sp dp n := by funext b; simp [zcp]
theorem zset_I {G : zG} {M : zMem} {o k : Nat} {v : Int32} (h : o < 63) {e : va_E} (he : zent G (zwI M o k v) o = e) : (zWd G M).set o (G.2.2.2.1 o, e) = zWd G (zwI M o k v) := by
  rw [← he]
  exact zWd_set h (fun a ha => zwI_o ha) (fun a ha => rfl)
theorem zset_J {G : zG} {M : zMem} {o k : Nat} {v : Int64} (h : o < 63) {e : va_E} (he : zent G (zwJ M o k v) o = e) : (zWd G M).set o (G.2.2.2.1 o, e) = zWd G (zwJ M o k v) := by
  rw [← he]
  exact zWd_set h (fun a ha => rfl) (fun a ha => zwJ_o ha)
theorem zset_C {G : zG} {M : zMem} {c0 o sp dp n : Nat} (h : o < 63) {e : va_E} (he : zent G (zcp M c0 o sp dp n) o = e) : (zWd G M).set o (G.2.2.2.1 o, e) = zWd G (zcp M c0 o sp dp n) := by
  rw [← he]
  exact zWd_set h (fun a ha => zcp_o ha) (fun a ha => rfl)
theorem zput_1_2 {G : zG} {M : zMem} {o : Nat} {v : Int32} (h : zkd o = 1) : zent G (zwI M o 2 v) o = .inr (1, (zfs1 G M o).set 2 (.int v)) := by rw [zent_1 h]; simp [zfs1, zwI]
theorem zput_3_5 {G : zG} {M : zMem} {o : Nat} {v : Int32} (h : zkd o = 3) : zent G (zwI M o 5 v) o = .inr (3, (zfs3 G M o).set 5 (.int v)) := by rw [zent_3 h]; simp [zfs3, zwI]
theorem zput_3_6 {G : zG} {M : zMem} {o : Nat} {v : Int32} (h : zkd o = 3) : zent G (zwI M o 6 v) o = .inr (3, (zfs3 G M o).set 6 (.int v)) := by rw [zent_3 h]; simp [zfs3, zwI]
theorem zput_3_7 {G : zG} {M : zMem} {o : Nat} {v : Int32} (h : zkd o = 3) : zent G (zwI M o 7 v) o = .inr (3, (zfs3 G M o).set 7 (.int v)) := by rw [zent_3 h]; simp [zfs3, zwI]
theorem zput_3_10 {G : zG} {M : zMem} {o : Nat} {v : Int32} (h : zkd o = 3) : zent G (zwI M o 10 v) o = .inr (3, (zfs3 G M o).set 10 (.int v)) := by rw [zent_3 h]; simp [zfs3, zwI]
theorem zput_3_11 {G : zG} {M : zMem} {o : Nat} {v : Int32} (h : zkd o = 3) : zent G (zwI M o 11 v) o = .inr (3, (zfs3 G M o).set 11 (.int v)) := by rw [zent_3 h]; simp [zfs3, zwI]
theorem zput_4_1 {G : zG} {M : zMem} {o : Nat} {v : Int32} (h : zkd o = 4) : zent G (zwI M o 1 v) o = .inr (4, (zfs4 G M o).set 1 (.int v)) := by rw [zent_4 h]; simp [zfs4, zwI]
theorem zput_4_3 {G : zG} {M : zMem} {o : Nat} {v : Int32} (h : zkd o = 4) : zent G (zwI M o 3 v) o = .inr (4, (zfs4 G M o).set 3 (.int v)) := by rw [zent_4 h]; simp [zfs4, zwI]
theorem zput_4_4 {G : zG} {M : zMem} {o : Nat} {v : Int32} (h : zkd o = 4) : zent G (zwI M o 4 v) o = .inr (4, (zfs4 G M o).set 4 (.int v)) := by rw [zent_4 h]; simp [zfs4, zwI]
theorem zput_4_5 {G : zG} {M : zMem} {o : Nat} {v : Int32} (h : zkd o = 4) : zent G (zwI M o 5 v) o = .inr (4, (zfs4 G M o).set 5 (.int v)) := by rw [zent_4 h]; simp [zfs4, zwI]
theorem zput_5_2 {G : zG} {M : zMem} {o : Nat} {v : Int32} (h : zkd o = 5) : zent G (zwI M o 2 v) o = .inr (5, (zfs5 G M o).set 2 (.int v)) := by rw [zent_5 h]; simp [zfs5, zwI]
theorem zput_6_2 {G : zG} {M : zMem} {o : Nat} {v : Int32} (h : zkd o = 6) : zent G (zwI M o 2 v) o = .inr (6, (zfs6 G M o).set 2 (.int v)) := by rw [zent_6 h]; simp [zfs6, zwI]
theorem zput_7_0 {G : zG} {M : zMem} {o : Nat} {v : Int32} (h : zkd o = 7) : zent G (zwI M o 0 v) o = .inr (7, (zfs7 G M o).set 0 (.int v)) := by rw [zent_7 h]; simp [zfs7, zwI]
theorem zput_7_1 {G : zG} {M : zMem} {o : Nat} {v : Int32} (h : zkd o = 7) : zent G (zwI M o 1 v) o = .inr (7, (zfs7 G M o).set 1 (.int v)) := by rw [zent_7 h]; simp [zfs7, zwI]
theorem zput_7_4 {G : zG} {M : zMem} {o : Nat} {v : Int32} (h : zkd o = 7) : zent G (zwI M o 4 v) o = .inr (7, (zfs7 G M o).set 4 (.int v)) := by rw [zent_7 h]; simp [zfs7, zwI]
theorem zput_7_7 {G : zG} {M : zMem} {o : Nat} {v : Int32} (h : zkd o = 7) : zent G (zwI M o 7 v) o = .inr (7, (zfs7 G M o).set 7 (.int v)) := by rw [zent_7 h]; simp [zfs7, zwI]
theorem zput_7_11 {G : zG} {M : zMem} {o : Nat} {v : Int32} (h : zkd o = 7) : zent G (zwI M o 11 v) o = .inr (7, (zfs7 G M o).set 11 (.int v)) := by rw [zent_7 h]; simp [zfs7, zwI]
theorem zput_7_12 {G : zG} {M : zMem} {o : Nat} {v : Int32} (h : zkd o = 7) : zent G (zwI M o 12 v) o = .inr (7, (zfs7 G M o).set 12 (.int v)) := by rw [zent_7 h]; simp [zfs7, zwI]
theorem zput_7_14 {G : zG} {M : zMem} {o : Nat} {v : Int32} (h : zkd o = 7) : zent G (zwI M o 14 v) o = .inr (7, (zfs7 G M o).set 14 (.int v)) := by rw [zent_7 h]; simp [zfs7, zwI]
theorem zput_7_15 {G : zG} {M : zMem} {o : Nat} {v : Int32} (h : zkd o = 7) : zent G (zwI M o 15 v) o = .inr (7, (zfs7 G M o).set 15 (.int v)) := by rw [zent_7 h]; simp [zfs7, zwI]
theorem zput_7_16 {G : zG} {M : zMem} {o : Nat} {v : Int32} (h : zkd o = 7) : zent G (zwI M o 16 v) o = .inr (7, (zfs7 G M o).set 16 (.int v)) := by rw [zent_7 h]; simp [zfs7, zwI]
theorem zput_7_18 {G : zG} {M : zMem} {o : Nat} {v : Int32} (h : zkd o = 7) : zent G (zwI M o 18 v) o = .inr (7, (zfs7 G M o).set 18 (.int v)) := by rw [zent_7 h]; simp [zfs7, zwI]
theorem zput_7_19 {G : zG} {M : zMem} {o : Nat} {v : Int32} (h : zkd o = 7) : zent G (zwI M o 19 v) o = .inr (7, (zfs7 G M o).set 19 (.int v)) := by rw [zent_7 h]; simp [zfs7, zwI]
theorem zput_7_24 {G : zG} {M : zMem} {o : Nat} {v : Int32} (h : zkd o = 7) : zent G (zwI M o 24 v) o = .inr (7, (zfs7 G M o).set 24 (.int v)) := by rw [zent_7 h]; simp [zfs7, zwI]
theorem zput_7_27 {G : zG} {M : zMem} {o : Nat} {v : Int32} (h : zkd o = 7) : zent G (zwI M o 27 v) o = .inr (7, (zfs7 G M o).set 27 (.int v)) := by rw [zent_7 h]; simp [zfs7, zwI]
/-! ===== words ===== -/
def zisN : Cond → Bool
  | .fieldLinkNest .. => true
  | .methodLinkNest .. => true
  | _ => false
def zgw : List Cond := lw_tbl.filter goodWord
def znw : List Cond := lw_tbl.filter zisN
theorem zgw_of (i : Nat) {w : Cond} (h : lw_tbl[i]? = some w) (hg : goodWord w = true) : w ∈ zgw := List.mem_filter.mpr ⟨List.mem_of_getElem? h, hg⟩
theorem znw_of (i : Nat) {w : Cond} (h : lw_tbl[i]? = some w) (hg : zisN w = true) : w ∈ znw := List.mem_filter.mpr ⟨List.mem_of_getElem? h, hg⟩
theorem zgood {big : List Cond} {y : MethodName} {cy : ByteArray} {mL : Nat} {ret : Option FieldType} (hb : ∀ w ∈ zgw, w ∈ big) (hc : Cond.code y cy mL ret ∈ zgw) : GoodIn big (.code y cy mL ret :: zgw) := by
  intro w hw
  have hm : w ∈ zgw := by
    rcases List.mem_cons.mp hw with rfl | h
    · exact hc
    · exact h
  exact ⟨hb w hm, good_of_word (List.mem_filter.mp hm).2⟩
theorem znw_warm {s U : State} (hW : s.WarmedH U.vm) {w : Cond} (hw : w ∈ znw) (h : va_Nw w s) : va_Nw w U := by
  have h1 := (List.mem_filter.mp hw).2
  cases w <;> first | (exact va_Nw.warmF hW h) | (exact va_Nw.warmM hW h) | (simp [zisN] at h1; done)
theorem znw_same {u U : State} (hv : u.vm = U.vm) {w : Cond} (hw : w ∈ znw) (h : va_Nw w u) : va_Nw w U := by
  have h1 := (List.mem_filter.mp hw).2
  refine va_Nw.same ?_ hv h
  cases w <;> first | rfl | (simp [zisN] at h1; done)
theorem znw_tab {A : Array Value} {U : State} {w : Cond} (hw : w ∈ znw) (h : w.before A U = true) : va_Nw w U := by
  have h1 := (List.mem_filter.mp hw).2
  refine va_Nw.of ?_ h
  cases w <;> first | rfl | (simp [zisN] at h1; done)
/-! ===== the world as a predicate of states; contexts; the judgement ===== -/
def ztys (G : zG) : List (ClassId × FieldType) := [(G.2.2.1.1, .int), (G.2.2.1.2.1, .long), (G.2.2.1.2.2.1, .boolean), (G.2.2.1.2.2.2, .object "CurveMeetings$Arc")]
def zAd (G : zG) : Prop := (∀ i j, i < 63 → j < 63 → G.2.2.2.1 i = G.2.2.2.1 j → i = j) ∧ ∀ i, i < 63 → G.1 ≤ G.2.2.2.1 i
def zSt (G : zG) (U : State) : Prop := va_Z "CurveMeetings" "AREA_WEIGHTS" "[I" (.ref G.2.2.2.2) (zA G) U U.heap ∧ va_T .int G.2.2.2.2 16 (fun j => .int (zaw j)) (zA G) U U.heap
def zS (G : zG) (M : zMem) (U : State) : Prop := va_P G.2.1 vwCl (zWd G M) U.heap ∧ va_K G.2.1 vwCl (ztys G) U ∧ zAd G ∧ zSt G U ∧ ∀ w ∈ znw, va_Nw w U
theorem zWd_D {G : zG} (h : zAd G) (M : zMem) : va_D (zA G) (zWd G M) := by
  have key : ∀ (k : Nat) (q : Nat × va_E), (zWd G M)[k]? = some q → k < 63 ∧ q.1 = G.2.2.2.1 k := by
    intro k q hk
    have hl : k < 63 := by rw [← zWd_len G M]; exact (List.getElem?_eq_some_iff.mp hk).1
    rw [zWd_at G M hl] at hk
    cases hk
    exact ⟨hl, rfl⟩
  refine ⟨fun i j p q hi hj hpq => ?_, fun k q hk => ?_⟩
  · obtain ⟨h1, e1⟩ := key i p hi
    obtain ⟨h2, e2⟩ := key j q hj
    exact h.1 i j h1 h2 (by rw [← e1, ← e2, hpq])
  · obtain ⟨h1, e1⟩ := key k q hk
    show G.1 ≤ q.1
    rw [e1]
    exact h.2 k h1
theorem zSt.go {G : zG} {s t : State} (h : zSt G s) (hv : s.vm.Alike t.vm) (hk : ∀ a : Nat, a < s.heap.size → ¬ zA G a → t.heap[a]? = s.heap[a]?) : zSt G t := ⟨(h.1.kept hk).moved hv, (h.2.kept hk).moved hv⟩
def zrm (h : Nat) : Room := { frames := h, cells := 0, slots := 0, locals := 200 * h }
abbrev zX : Type := Program × Launch × Env × Room × State × MethodId × Array Value × List Frame × Method × Code × Nat × Nat × (State → Prop) × Nat
def zV (G : zG) (X : zX) (M : zMem) (lv : List (Nat × Value)) (st : List Value) (pc : Nat) : Prop := match X with
  | (p, l, e, R, s, m, args, below, meth, c, cells, slots, Q, nL) => ∀ (H : Heap) (locs : List Loc) (ls : Array Slot), va_P G.2.1 vwCl (zWd G M) H → va_S (zA G) s.heap H locs → lv_has ls nL lv → W p l e R s m args below meth c H locs cells slots Q (F0 m pc ls st)
def zC (G : zG) (X : zX) (cc : ByteArray) (own : String) (h nL : Nat) : Prop := match X with
  | (p, _, _, R, s, m, args, _, _, c, cells, slots, _, nL') => p.tables.exec = Jvm.exec ∧ c.code = cc ∧ c.maxLocals = nL ∧ nL' = nL ∧ s.vm.findClass own = some m.cls ∧ (∀ w ∈ zgw, w.before args s = true) ∧ (∀ w ∈ znw, va_Nw w s) ∧ va_K G.2.1 vwCl (ztys G) s ∧ zAd G ∧ zSt G s ∧ h ≤ R.frames ∧ 200 * h ≤ R.locals ∧ cells ≤ R.cells ∧ slots ≤ R.slots
def zRun (G : zG) (X : zX) (M : zMem) (lv : List (Nat × Value)) (st : List Value) (pc : Nat) (rest : List Value) (Qa : State → Outcome → State → Prop) : Prop := match X with
  | (p, l, e, R, s, m, args, below, meth, c, cells, slots, _, nL) => ∀ (H : Heap) (locs : List Loc) (ls : Array Slot), va_P G.2.1 vwCl (zWd G M) H → va_S (zA G) s.heap H locs → lv_has ls nL lv → va_Run p l e R s m args below meth c H locs cells slots 0 0 (F0 m pc ls st) rest Qa (zA G)
section ZR
variable {G : zG} {X : zX} {M : zMem} {cc : ByteArray} {own : String} {h nL : Nat} {lv lv' : List (Nat × Value)} {rest : List Value} {pc : Nat}

theorem zr_iconst {n : Int} {v : Int32} (C : zC G X cc own h nL) (hd : decode cc pc = .ok (.iconst n, 1)) (hv : Int32.ofInt n = v) (k : zV G X M lv (.int v :: rest) (pc + 1)) : zV G X M lv rest pc := by
  obtain ⟨p, l, e, R, s, m, args, below, meth, c, cells, slots, Q, nL1⟩ := X
  obtain ⟨hx, hb, hml, rfl, hown, hts, hnw, hK, hAd, hSt, hfr, hlo, hce, hsl⟩ := C
  intro H locs ls hP hS hl
  exact lv_iconst hx hb hd hv (k H locs ls hP hS hl)
theorem zr_bipush {n : Int} {v : Int32} (C : zC G X cc own h nL) (hd : decode cc pc = .ok (.bipush n, 2)) (hv : (Int8.ofInt n).toInt32 = v) (k : zV G X M lv (.int v :: rest) (pc + 2)) : zV G X M lv rest pc := by
  obtain ⟨p, l, e, R, s, m, args, below, meth, c, cells, slots, Q, nL1⟩ := X
  obtain ⟨hx, hb, hml, rfl, hown, hts, hnw, hK, hAd, hSt, hfr, hlo, hce, hsl⟩ := C
  intro H locs ls hP hS hl
  exact lv_bipush hx hb hd hv (k H locs ls hP hS hl)
theorem zr_sipush {n : Int} {v : Int32} (C : zC G X cc own h nL) (hd : decode cc pc = .ok (.sipush n, 3)) (hv : (Int16.ofInt n).toInt32 = v) (k : zV G X M lv (.int v :: rest) (pc + 3)) : zV G X M lv rest pc := by
  obtain ⟨p, l, e, R, s, m, args, below, meth, c, cells, slots, Q, nL1⟩ := X
  obtain ⟨hx, hb, hml, rfl, hown, hts, hnw, hK, hAd, hSt, hfr, hlo, hce, hsl⟩ := C
  intro H locs ls hP hS hl
  exact lv_sipush hx hb hd hv (k H locs ls hP hS hl)
theorem zr_lconst {n : Fin 2} {v : Int64} (C : zC G X cc own h nL) (hd : decode cc pc = .ok (.lconst n, 1)) (hv : Int64.ofNat (n : Nat) = v) (k : zV G X M lv (.long v :: rest) (pc + 1)) : zV G X M lv rest pc := by
  obtain ⟨p, l, e, R, s, m, args, below, meth, c, cells, slots, Q, nL1⟩ := X
  obtain ⟨hx, hb, hml, rfl, hown, hts, hnw, hK, hAd, hSt, hfr, hlo, hce, hsl⟩ := C
  intro H locs ls hP hS hl
  exact lv_lconst hx hb hd hv (k H locs ls hP hS hl)
theorem zr_ldc {i : Nat} {v : Int32} (C : zC G X cc own h nL) (hw : Cond.constant own i v ∈ zgw) (hd : decode cc pc = .ok (.ldc i, 2)) (k : zV G X M lv (.int v :: rest) (pc + 2)) : zV G X M lv rest pc := by
  obtain ⟨p, l, e, R, s, m, args, below, meth, c, cells, slots, Q, nL1⟩ := X
  obtain ⟨hx, hb, hml, rfl, hown, hts, hnw, hK, hAd, hSt, hfr, hlo, hce, hsl⟩ := C
  intro H locs ls hP hS hl
  exact lv_ldc hx hb hown (hts _ hw) hd (k H locs ls hP hS hl)
theorem zr_ldc2 {i : Nat} {v : Int64} (C : zC G X cc own h nL) (hw : Cond.constantLong own i v ∈ zgw) (hd : decode cc pc = .ok (.ldc2_w i, 3)) (k : zV G X M lv (.long v :: rest) (pc + 3)) : zV G X M lv rest pc := by
  obtain ⟨p, l, e, R, s, m, args, below, meth, c, cells, slots, Q, nL1⟩ := X
  obtain ⟨hx, hb, hml, rfl, hown, hts, hnw, hK, hAd, hSt, hfr, hlo, hce, hsl⟩ := C
  intro H locs ls hP hS hl
  exact lv_ldc2 hx hb hown (hts _ hw) hd (k H locs ls hP hS hl)
theorem zr_iload_n {i : Fin 4} {x : Int32} (C : zC G X cc own h nL) (j : Nat) {n : Nat} (hd : decode cc pc = .ok (.iload_n i, 1)) (hi : (i : Nat) = n) (hj : lv[j]? = some (n, .int x)) (k : zV G X M lv (.int x :: rest) (pc + 1)) : zV G X M lv rest pc := by
  obtain ⟨p, l, e, R, s, m, args, below, meth, c, cells, slots, Q, nL1⟩ := X
  obtain ⟨hx, hb, hml, rfl, hown, hts, hnw, hK, hAd, hSt, hfr, hlo, hce, hsl⟩ := C
  intro H locs ls hP hS hl
  exact lv_iload_n hx hb hd hi (lv_at hl j hj) (k H locs ls hP hS hl)
theorem zr_iload {x : Int32} (C : zC G X cc own h nL) (j : Nat) {n : Nat} (hd : decode cc pc = .ok (.iload n, 2)) (hj : lv[j]? = some (n, .int x)) (k : zV G X M lv (.int x :: rest) (pc + 2)) : zV G X M lv rest pc := by
  obtain ⟨p, l, e, R, s, m, args, below, meth, c, cells, slots, Q, nL1⟩ := X
  obtain ⟨hx, hb, hml, rfl, hown, hts, hnw, hK, hAd, hSt, hfr, hlo, hce, hsl⟩ := C
  intro H locs ls hP hS hl
  exact lv_iload hx hb hd (lv_at hl j hj) (k H locs ls hP hS hl)
theorem zr_istore_n {i : Fin 4} {x : Int32} (C : zC G X cc own h nL) (ks : List Nat) {n : Nat} (hd : decode cc pc = .ok (.istore_n i, 1)) (hi : (i : Nat) = n) (hn : n < nL) (hks : lv_pick ((n, Value.int x) :: lv.filter (fun q => !(q.1 == n) && !(q.1 + 1 == n && q.2.category == 2))) ks = lv') (k : zV G X M lv' rest (pc + 1)) : zV G X M lv (.int x :: rest) pc := by
  obtain ⟨p, l, e, R, s, m, args, below, meth, c, cells, slots, Q, nL1⟩ := X
  obtain ⟨hx, hb, hml, rfl, hown, hts, hnw, hK, hAd, hSt, hfr, hlo, hce, hsl⟩ := C
  intro H locs ls hP hS hl
  exact lv_istore_n hx hb hd hi hl hn rfl (fun ls1 h1 => k H locs ls1 hP hS (lv_sub h1 ks hks))
theorem zr_istore {x : Int32} (C : zC G X cc own h nL) (ks : List Nat) {n : Nat} (hd : decode cc pc = .ok (.istore n, 2)) (hn : n < nL) (hks : lv_pick ((n, Value.int x) :: lv.filter (fun q => !(q.1 == n) && !(q.1 + 1 == n && q.2.category == 2))) ks = lv') (k : zV G X M lv' rest (pc + 2)) : zV G X M lv (.int x :: rest) pc := by
  obtain ⟨p, l, e, R, s, m, args, below, meth, c, cells, slots, Q, nL1⟩ := X
  obtain ⟨hx, hb, hml, rfl, hown, hts, hnw, hK, hAd, hSt, hfr, hlo, hce, hsl⟩ := C
  intro H locs ls hP hS hl
  exact lv_istore hx hb hd hl hn rfl (fun ls1 h1 => k H locs ls1 hP hS (lv_sub h1 ks hks))
theorem zr_lload_n {i : Fin 4} {x : Int64} (C : zC G X cc own h nL) (j : Nat) {n : Nat} (hd : decode cc pc = .ok (.lload_n i, 1)) (hi : (i : Nat) = n) (hj : lv[j]? = some (n, .long x)) (k : zV G X M lv (.long x :: rest) (pc + 1)) : zV G X M lv rest pc := by
  obtain ⟨p, l, e, R, s, m, args, below, meth, c, cells, slots, Q, nL1⟩ := X
  obtain ⟨hx, hb, hml, rfl, hown, hts, hnw, hK, hAd, hSt, hfr, hlo, hce, hsl⟩ := C
  intro H locs ls hP hS hl
  exact lv_lload_n hx hb hd hi (lv_at hl j hj) (k H locs ls hP hS hl)
theorem zr_lload {x : Int64} (C : zC G X cc own h nL) (j : Nat) {n : Nat} (hd : decode cc pc = .ok (.lload n, 2)) (hj : lv[j]? = some (n, .long x)) (k : zV G X M lv (.long x :: rest) (pc + 2)) : zV G X M lv rest pc := by
  obtain ⟨p, l, e, R, s, m, args, below, meth, c, cells, slots, Q, nL1⟩ := X
  obtain ⟨hx, hb, hml, rfl, hown, hts, hnw, hK, hAd, hSt, hfr, hlo, hce, hsl⟩ := C
  intro H locs ls hP hS hl
  exact lv_lload hx hb hd (lv_at hl j hj) (k H locs ls hP hS hl)
theorem zr_lstore_n {i : Fin 4} {x : Int64} (C : zC G X cc own h nL) (ks : List Nat) {n : Nat} (hd : decode cc pc = .ok (.lstore_n i, 1)) (hi : (i : Nat) = n) (hn : n + 1 < nL) (hks : lv_pick ((n, Value.long x) :: lv.filter (fun q => !(q.1 == n) && (!(q.1 == n + 1) && !(q.1 + 1 == n && q.2.category == 2)))) ks = lv') (k : zV G X M lv' rest (pc + 1)) : zV G X M lv (.long x :: rest) pc := by
  obtain ⟨p, l, e, R, s, m, args, below, meth, c, cells, slots, Q, nL1⟩ := X
  obtain ⟨hx, hb, hml, rfl, hown, hts, hnw, hK, hAd, hSt, hfr, hlo, hce, hsl⟩ := C
  intro H locs ls hP hS hl
  exact lv_lstore_n hx hb hd hi hl hn rfl (fun ls1 h1 => k H locs ls1 hP hS (lv_sub h1 ks hks))
theorem zr_lstore {x : Int64} (C : zC G X cc own h nL) (ks : List Nat) {n : Nat} (hd : decode cc pc = .ok (.lstore n, 2)) (hn : n + 1 < nL) (hks : lv_pick ((n, Value.long x) :: lv.filter (fun q => !(q.1 == n) && (!(q.1 == n + 1) && !(q.1 + 1 == n && q.2.category == 2)))) ks = lv') (k : zV G X M lv' rest (pc + 2)) : zV G X M lv (.long x :: rest) pc := by
  obtain ⟨p, l, e, R, s, m, args, below, meth, c, cells, slots, Q, nL1⟩ := X
  obtain ⟨hx, hb, hml, rfl, hown, hts, hnw, hK, hAd, hSt, hfr, hlo, hce, hsl⟩ := C
  intro H locs ls hP hS hl
  exact lv_lstore hx hb hd hl hn rfl (fun ls1 h1 => k H locs ls1 hP hS (lv_sub h1 ks hks))
theorem zr_aload_n {i : Fin 4} {x : Nat} (C : zC G X cc own h nL) (j : Nat) {n : Nat} (hd : decode cc pc = .ok (.aload_n i, 1)) (hi : (i : Nat) = n) (hj : lv[j]? = some (n, .ref x)) (k : zV G X M lv (.ref x :: rest) (pc + 1)) : zV G X M lv rest pc := by
  obtain ⟨p, l, e, R, s, m, args, below, meth, c, cells, slots, Q, nL1⟩ := X
  obtain ⟨hx, hb, hml, rfl, hown, hts, hnw, hK, hAd, hSt, hfr, hlo, hce, hsl⟩ := C
  intro H locs ls hP hS hl
  exact lv_aload_n hx hb hd hi (lv_at hl j hj) (k H locs ls hP hS hl)
theorem zr_aload {x : Nat} (C : zC G X cc own h nL) (j : Nat) {n : Nat} (hd : decode cc pc = .ok (.aload n, 2)) (hj : lv[j]? = some (n, .ref x)) (k : zV G X M lv (.ref x :: rest) (pc + 2)) : zV G X M lv rest pc := by
  obtain ⟨p, l, e, R, s, m, args, below, meth, c, cells, slots, Q, nL1⟩ := X
  obtain ⟨hx, hb, hml, rfl, hown, hts, hnw, hK, hAd, hSt, hfr, hlo, hce, hsl⟩ := C
  intro H locs ls hP hS hl
  exact lv_aload hx hb hd (lv_at hl j hj) (k H locs ls hP hS hl)
theorem zr_astore_n {i : Fin 4} {x : Nat} (C : zC G X cc own h nL) (ks : List Nat) {n : Nat} (hd : decode cc pc = .ok (.astore_n i, 1)) (hi : (i : Nat) = n) (hn : n < nL) (hks : lv_pick ((n, Value.ref x) :: lv.filter (fun q => !(q.1 == n) && !(q.1 + 1 == n && q.2.category == 2))) ks = lv') (k : zV G X M lv' rest (pc + 1)) : zV G X M lv (.ref x :: rest) pc := by
  obtain ⟨p, l, e, R, s, m, args, below, meth, c, cells, slots, Q, nL1⟩ := X
  obtain ⟨hx, hb, hml, rfl, hown, hts, hnw, hK, hAd, hSt, hfr, hlo, hce, hsl⟩ := C
  intro H locs ls hP hS hl
  exact lv_astore_n hx hb hd hi hl hn rfl (fun ls1 h1 => k H locs ls1 hP hS (lv_sub h1 ks hks))
theorem zr_astore {x : Nat} (C : zC G X cc own h nL) (ks : List Nat) {n : Nat} (hd : decode cc pc = .ok (.astore n, 2)) (hn : n < nL) (hks : lv_pick ((n, Value.ref x) :: lv.filter (fun q => !(q.1 == n) && !(q.1 + 1 == n && q.2.category == 2))) ks = lv') (k : zV G X M lv' rest (pc + 2)) : zV G X M lv (.ref x :: rest) pc := by
  obtain ⟨p, l, e, R, s, m, args, below, meth, c, cells, slots, Q, nL1⟩ := X
  obtain ⟨hx, hb, hml, rfl, hown, hts, hnw, hK, hAd, hSt, hfr, hlo, hce, hsl⟩ := C
  intro H locs ls hP hS hl
  exact lv_astore hx hb hd hl hn rfl (fun ls1 h1 => k H locs ls1 hP hS (lv_sub h1 ks hks))
theorem zr_iinc {d : Int} {x : Int32} (C : zC G X cc own h nL) (j : Nat) (ks : List Nat) {n : Nat} {v : Int32} (hd : decode cc pc = .ok (.iinc n d, 3)) (hj : lv[j]? = some (n, .int x)) (hv : x + Int32.ofInt d = v) (hn : n < nL) (hks : lv_pick ((n, Value.int v) :: lv.filter (fun q => !(q.1 == n) && !(q.1 + 1 == n && q.2.category == 2))) ks = lv') (k : zV G X M lv' rest (pc + 3)) : zV G X M lv rest pc := by
  obtain ⟨p, l, e, R, s, m, args, below, meth, c, cells, slots, Q, nL1⟩ := X
  obtain ⟨hx, hb, hml, rfl, hown, hts, hnw, hK, hAd, hSt, hfr, hlo, hce, hsl⟩ := C
  intro H locs ls hP hS hl
  exact lv_iinc hx hb hd hl hj hv hn rfl (fun ls1 h1 => k H locs ls1 hP hS (lv_sub h1 ks hks))
theorem zr_sub (ks : List Nat) {st : List Value} (hks : lv_pick lv ks = lv') (k : zV G X M lv' st pc) : zV G X M lv st pc := by
  obtain ⟨p, l, e, R, s, m, args, below, meth, c, cells, slots, Q, nL1⟩ := X
  intro H locs ls hP hS hl
  exact k H locs ls hP hS (lv_sub hl ks hks)
theorem zr_iadd {x y : Int32} (C : zC G X cc own h nL) (hd : decode cc pc = .ok (.iadd, 1)) (k : zV G X M lv (.int (x + y) :: rest) (pc + 1)) : zV G X M lv (.int y :: .int x :: rest) pc := by
  obtain ⟨p, l, e, R, s, m, args, below, meth, c, cells, slots, Q, nL1⟩ := X
  obtain ⟨hx, hb, hml, rfl, hown, hts, hnw, hK, hAd, hSt, hfr, hlo, hce, hsl⟩ := C
  intro H locs ls hP hS hl
  exact lv_iadd hx hb hd (k H locs ls hP hS hl)
theorem zr_isub {x y : Int32} (C : zC G X cc own h nL) (hd : decode cc pc = .ok (.isub, 1)) (k : zV G X M lv (.int (x - y) :: rest) (pc + 1)) : zV G X M lv (.int y :: .int x :: rest) pc := by
  obtain ⟨p, l, e, R, s, m, args, below, meth, c, cells, slots, Q, nL1⟩ := X
  obtain ⟨hx, hb, hml, rfl, hown, hts, hnw, hK, hAd, hSt, hfr, hlo, hce, hsl⟩ := C
  intro H locs ls hP hS hl
  exact lv_isub hx hb hd (k H locs ls hP hS hl)
theorem zr_imul {x y : Int32} (C : zC G X cc own h nL) (hd : decode cc pc = .ok (.imul, 1)) (k : zV G X M lv (.int (x * y) :: rest) (pc + 1)) : zV G X M lv (.int y :: .int x :: rest) pc := by
  obtain ⟨p, l, e, R, s, m, args, below, meth, c, cells, slots, Q, nL1⟩ := X
  obtain ⟨hx, hb, hml, rfl, hown, hts, hnw, hK, hAd, hSt, hfr, hlo, hce, hsl⟩ := C
  intro H locs ls hP hS hl
  exact lv_imul hx hb hd (k H locs ls hP hS hl)
theorem zr_iand {x y : Int32} (C : zC G X cc own h nL) (hd : decode cc pc = .ok (.iand, 1)) (k : zV G X M lv (.int (x &&& y) :: rest) (pc + 1)) : zV G X M lv (.int y :: .int x :: rest) pc := by
  obtain ⟨p, l, e, R, s, m, args, below, meth, c, cells, slots, Q, nL1⟩ := X
  obtain ⟨hx, hb, hml, rfl, hown, hts, hnw, hK, hAd, hSt, hfr, hlo, hce, hsl⟩ := C
  intro H locs ls hP hS hl
  exact lv_iand hx hb hd (k H locs ls hP hS hl)
theorem zr_ior {x y : Int32} (C : zC G X cc own h nL) (hd : decode cc pc = .ok (.ior, 1)) (k : zV G X M lv (.int (x ||| y) :: rest) (pc + 1)) : zV G X M lv (.int y :: .int x :: rest) pc := by
  obtain ⟨p, l, e, R, s, m, args, below, meth, c, cells, slots, Q, nL1⟩ := X
  obtain ⟨hx, hb, hml, rfl, hown, hts, hnw, hK, hAd, hSt, hfr, hlo, hce, hsl⟩ := C
  intro H locs ls hP hS hl
  exact lv_ior hx hb hd (k H locs ls hP hS hl)
theorem zr_ishl {x y : Int32} (C : zC G X cc own h nL) (hd : decode cc pc = .ok (.ishl, 1)) (k : zV G X M lv (.int (x <<< (y &&& 31)) :: rest) (pc + 1)) : zV G X M lv (.int y :: .int x :: rest) pc := by
  obtain ⟨p, l, e, R, s, m, args, below, meth, c, cells, slots, Q, nL1⟩ := X
  obtain ⟨hx, hb, hml, rfl, hown, hts, hnw, hK, hAd, hSt, hfr, hlo, hce, hsl⟩ := C
  intro H locs ls hP hS hl
  exact lv_ishl hx hb hd (k H locs ls hP hS hl)
theorem zr_ishr {x y : Int32} (C : zC G X cc own h nL) (hd : decode cc pc = .ok (.ishr, 1)) (k : zV G X M lv (.int (x >>> (y &&& 31)) :: rest) (pc + 1)) : zV G X M lv (.int y :: .int x :: rest) pc := by
  obtain ⟨p, l, e, R, s, m, args, below, meth, c, cells, slots, Q, nL1⟩ := X
  obtain ⟨hx, hb, hml, rfl, hown, hts, hnw, hK, hAd, hSt, hfr, hlo, hce, hsl⟩ := C
  intro H locs ls hP hS hl
  exact lv_ishr hx hb hd (k H locs ls hP hS hl)
theorem zr_idiv {x y : Int32} (C : zC G X cc own h nL) (hd : decode cc pc = .ok (.idiv, 1)) (hne : ¬ y = 0) (k : zV G X M lv (.int (x / y) :: rest) (pc + 1)) : zV G X M lv (.int y :: .int x :: rest) pc := by
  obtain ⟨p, l, e, R, s, m, args, below, meth, c, cells, slots, Q, nL1⟩ := X
  obtain ⟨hx, hb, hml, rfl, hown, hts, hnw, hK, hAd, hSt, hfr, hlo, hce, hsl⟩ := C
  intro H locs ls hP hS hl
  exact lv_idiv hx hb hd hne (k H locs ls hP hS hl)
theorem zr_irem {x y : Int32} (C : zC G X cc own h nL) (hd : decode cc pc = .ok (.irem, 1)) (hne : ¬ y = 0) (k : zV G X M lv (.int (x - x / y * y) :: rest) (pc + 1)) : zV G X M lv (.int y :: .int x :: rest) pc := by
  obtain ⟨p, l, e, R, s, m, args, below, meth, c, cells, slots, Q, nL1⟩ := X
  obtain ⟨hx, hb, hml, rfl, hown, hts, hnw, hK, hAd, hSt, hfr, hlo, hce, hsl⟩ := C
  intro H locs ls hP hS hl
  exact lv_irem hx hb hd hne (k H locs ls hP hS hl)
theorem zr_ineg {x : Int32} (C : zC G X cc own h nL) (hd : decode cc pc = .ok (.ineg, 1)) (k : zV G X M lv (.int (-x) :: rest) (pc + 1)) : zV G X M lv (.int x :: rest) pc := by
  obtain ⟨p, l, e, R, s, m, args, below, meth, c, cells, slots, Q, nL1⟩ := X
  obtain ⟨hx, hb, hml, rfl, hown, hts, hnw, hK, hAd, hSt, hfr, hlo, hce, hsl⟩ := C
  intro H locs ls hP hS hl
  exact lv_ineg hx hb hd (k H locs ls hP hS hl)
theorem zr_ladd {x y : Int64} (C : zC G X cc own h nL) (hd : decode cc pc = .ok (.ladd, 1)) (k : zV G X M lv (.long (x + y) :: rest) (pc + 1)) : zV G X M lv (.long y :: .long x :: rest) pc := by
  obtain ⟨p, l, e, R, s, m, args, below, meth, c, cells, slots, Q, nL1⟩ := X
  obtain ⟨hx, hb, hml, rfl, hown, hts, hnw, hK, hAd, hSt, hfr, hlo, hce, hsl⟩ := C
  intro H locs ls hP hS hl
  exact lv_ladd hx hb hd (k H locs ls hP hS hl)
theorem zr_lsub {x y : Int64} (C : zC G X cc own h nL) (hd : decode cc pc = .ok (.lsub, 1)) (k : zV G X M lv (.long (x - y) :: rest) (pc + 1)) : zV G X M lv (.long y :: .long x :: rest) pc := by
  obtain ⟨p, l, e, R, s, m, args, below, meth, c, cells, slots, Q, nL1⟩ := X
  obtain ⟨hx, hb, hml, rfl, hown, hts, hnw, hK, hAd, hSt, hfr, hlo, hce, hsl⟩ := C
  intro H locs ls hP hS hl
  exact lv_lsub hx hb hd (k H locs ls hP hS hl)
theorem zr_lmul {x y : Int64} (C : zC G X cc own h nL) (hd : decode cc pc = .ok (.lmul, 1)) (k : zV G X M lv (.long (x * y) :: rest) (pc + 1)) : zV G X M lv (.long y :: .long x :: rest) pc := by
  obtain ⟨p, l, e, R, s, m, args, below, meth, c, cells, slots, Q, nL1⟩ := X
  obtain ⟨hx, hb, hml, rfl, hown, hts, hnw, hK, hAd, hSt, hfr, hlo, hce, hsl⟩ := C
  intro H locs ls hP hS hl
  exact lv_lmul hx hb hd (k H locs ls hP hS hl)
theorem zr_i2l {x : Int32} (C : zC G X cc own h nL) (hd : decode cc pc = .ok (.i2l, 1)) (k : zV G X M lv (.long x.toInt64 :: rest) (pc + 1)) : zV G X M lv (.int x :: rest) pc := by
  obtain ⟨p, l, e, R, s, m, args, below, meth, c, cells, slots, Q, nL1⟩ := X
  obtain ⟨hx, hb, hml, rfl, hown, hts, hnw, hK, hAd, hSt, hfr, hlo, hce, hsl⟩ := C
  intro H locs ls hP hS hl
  exact lv_i2l hx hb hd rfl (k H locs ls hP hS hl)
theorem zr_l2i {x : Int64} (C : zC G X cc own h nL) (hd : decode cc pc = .ok (.l2i, 1)) (k : zV G X M lv (.int x.toInt32 :: rest) (pc + 1)) : zV G X M lv (.long x :: rest) pc := by
  obtain ⟨p, l, e, R, s, m, args, below, meth, c, cells, slots, Q, nL1⟩ := X
  obtain ⟨hx, hb, hml, rfl, hown, hts, hnw, hK, hAd, hSt, hfr, hlo, hce, hsl⟩ := C
  intro H locs ls hP hS hl
  exact lv_l2i hx hb hd rfl (k H locs ls hP hS hl)
theorem zr_dup {va : Value} (C : zC G X cc own h nL) (hva : va.category = 1) (hd : decode cc pc = .ok (.dup, 1)) (k : zV G X M lv (va :: va :: rest) (pc + 1)) : zV G X M lv (va :: rest) pc := by
  obtain ⟨p, l, e, R, s, m, args, below, meth, c, cells, slots, Q, nL1⟩ := X
  obtain ⟨hx, hb, hml, rfl, hown, hts, hnw, hK, hAd, hSt, hfr, hlo, hce, hsl⟩ := C
  intro H locs ls hP hS hl
  exact lv_dup hx hb hd hva (k H locs ls hP hS hl)
theorem zr_pop {va : Value} (C : zC G X cc own h nL) (hva : va.category = 1) (hd : decode cc pc = .ok (.pop, 1)) (k : zV G X M lv rest (pc + 1)) : zV G X M lv (va :: rest) pc := by
  obtain ⟨p, l, e, R, s, m, args, below, meth, c, cells, slots, Q, nL1⟩ := X
  obtain ⟨hx, hb, hml, rfl, hown, hts, hnw, hK, hAd, hSt, hfr, hlo, hce, hsl⟩ := C
  intro H locs ls hP hS hl
  exact lv_pop hx hb hd hva (k H locs ls hP hS hl)
theorem zr_dup2 {va vb : Value} (C : zC G X cc own h nL) (hva : va.category = 1) (hvb : vb.category = 1) (hd : decode cc pc = .ok (.dup2, 1)) (k : zV G X M lv (va :: vb :: va :: vb :: rest) (pc + 1)) : zV G X M lv (va :: vb :: rest) pc := by
  obtain ⟨p, l, e, R, s, m, args, below, meth, c, cells, slots, Q, nL1⟩ := X
  obtain ⟨hx, hb, hml, rfl, hown, hts, hnw, hK, hAd, hSt, hfr, hlo, hce, hsl⟩ := C
  intro H locs ls hP hS hl
  exact lv_dup2_11 hx hb hd hva hvb (k H locs ls hP hS hl)
theorem zr_icmp_eq {x y : Int32} {off : Int} (C : zC G X cc own h nL) (tgt : Nat) (hd : decode cc pc = .ok (.if_icmp .eq off, 3)) (ht : (pc : Int) + off = (tgt : Int)) (kt : x = y → zV G X M lv rest tgt) (kf : ¬ x = y → zV G X M lv rest (pc + 3)) : zV G X M lv (.int y :: .int x :: rest) pc := by
  obtain ⟨p, l, e, R, s, m, args, below, meth, c, cells, slots, Q, nL1⟩ := X
  obtain ⟨hx, hb, hml, rfl, hown, hts, hnw, hK, hAd, hSt, hfr, hlo, hce, hsl⟩ := C
  intro H locs ls hP hS hl
  exact lv_icmp_eq hx hb hd ht (fun q => kt q H locs ls hP hS hl) (fun q => kf q H locs ls hP hS hl)
theorem zr_if_eq {x : Int32} {off : Int} (C : zC G X cc own h nL) (tgt : Nat) (hd : decode cc pc = .ok (.ifCond .eq off, 3)) (ht : (pc : Int) + off = (tgt : Int)) (kt : x = 0 → zV G X M lv rest tgt) (kf : ¬ x = 0 → zV G X M lv rest (pc + 3)) : zV G X M lv (.int x :: rest) pc := by
  obtain ⟨p, l, e, R, s, m, args, below, meth, c, cells, slots, Q, nL1⟩ := X
  obtain ⟨hx, hb, hml, rfl, hown, hts, hnw, hK, hAd, hSt, hfr, hlo, hce, hsl⟩ := C
  intro H locs ls hP hS hl
  exact lv_if_eq hx hb hd ht (fun q => kt q H locs ls hP hS hl) (fun q => kf q H locs ls hP hS hl)
theorem zr_icmp_ne {x y : Int32} {off : Int} (C : zC G X cc own h nL) (tgt : Nat) (hd : decode cc pc = .ok (.if_icmp .ne off, 3)) (ht : (pc : Int) + off = (tgt : Int)) (kt : ¬ x = y → zV G X M lv rest tgt) (kf : x = y → zV G X M lv rest (pc + 3)) : zV G X M lv (.int y :: .int x :: rest) pc := by
  obtain ⟨p, l, e, R, s, m, args, below, meth, c, cells, slots, Q, nL1⟩ := X
  obtain ⟨hx, hb, hml, rfl, hown, hts, hnw, hK, hAd, hSt, hfr, hlo, hce, hsl⟩ := C
  intro H locs ls hP hS hl
  exact lv_icmp_ne hx hb hd ht (fun q => kt q H locs ls hP hS hl) (fun q => kf q H locs ls hP hS hl)
theorem zr_if_ne {x : Int32} {off : Int} (C : zC G X cc own h nL) (tgt : Nat) (hd : decode cc pc = .ok (.ifCond .ne off, 3)) (ht : (pc : Int) + off = (tgt : Int)) (kt : ¬ x = 0 → zV G X M lv rest tgt) (kf : x = 0 → zV G X M lv rest (pc + 3)) : zV G X M lv (.int x :: rest) pc := by
  obtain ⟨p, l, e, R, s, m, args, below, meth, c, cells, slots, Q, nL1⟩ := X
  obtain ⟨hx, hb, hml, rfl, hown, hts, hnw, hK, hAd, hSt, hfr, hlo, hce, hsl⟩ := C
  intro H locs ls hP hS hl
  exact lv_if_ne hx hb hd ht (fun q => kt q H locs ls hP hS hl) (fun q => kf q H locs ls hP hS hl)
theorem zr_icmp_lt {x y : Int32} {off : Int} (C : zC G X cc own h nL) (tgt : Nat) (hd : decode cc pc = .ok (.if_icmp .lt off, 3)) (ht : (pc : Int) + off = (tgt : Int)) (kt : x < y → zV G X M lv rest tgt) (kf : ¬ x < y → zV G X M lv rest (pc + 3)) : zV G X M lv (.int y :: .int x :: rest) pc := by
  obtain ⟨p, l, e, R, s, m, args, below, meth, c, cells, slots, Q, nL1⟩ := X
  obtain ⟨hx, hb, hml, rfl, hown, hts, hnw, hK, hAd, hSt, hfr, hlo, hce, hsl⟩ := C
  intro H locs ls hP hS hl
  exact lv_icmp_lt hx hb hd ht (fun q => kt q H locs ls hP hS hl) (fun q => kf q H locs ls hP hS hl)
theorem zr_if_lt {x : Int32} {off : Int} (C : zC G X cc own h nL) (tgt : Nat) (hd : decode cc pc = .ok (.ifCond .lt off, 3)) (ht : (pc : Int) + off = (tgt : Int)) (kt : x < 0 → zV G X M lv rest tgt) (kf : ¬ x < 0 → zV G X M lv rest (pc + 3)) : zV G X M lv (.int x :: rest) pc := by
  obtain ⟨p, l, e, R, s, m, args, below, meth, c, cells, slots, Q, nL1⟩ := X
  obtain ⟨hx, hb, hml, rfl, hown, hts, hnw, hK, hAd, hSt, hfr, hlo, hce, hsl⟩ := C
  intro H locs ls hP hS hl
  exact lv_if_lt hx hb hd ht (fun q => kt q H locs ls hP hS hl) (fun q => kf q H locs ls hP hS hl)
theorem zr_icmp_ge {x y : Int32} {off : Int} (C : zC G X cc own h nL) (tgt : Nat) (hd : decode cc pc = .ok (.if_icmp .ge off, 3)) (ht : (pc : Int) + off = (tgt : Int)) (kt : y ≤ x → zV G X M lv rest tgt) (kf : ¬ y ≤ x → zV G X M lv rest (pc + 3)) : zV G X M lv (.int y :: .int x :: rest) pc := by
  obtain ⟨p, l, e, R, s, m, args, below, meth, c, cells, slots, Q, nL1⟩ := X
  obtain ⟨hx, hb, hml, rfl, hown, hts, hnw, hK, hAd, hSt, hfr, hlo, hce, hsl⟩ := C
  intro H locs ls hP hS hl
  exact lv_icmp_ge hx hb hd ht (fun q => kt q H locs ls hP hS hl) (fun q => kf q H locs ls hP hS hl)
theorem zr_if_ge {x : Int32} {off : Int} (C : zC G X cc own h nL) (tgt : Nat) (hd : decode cc pc = .ok (.ifCond .ge off, 3)) (ht : (pc : Int) + off = (tgt : Int)) (kt : 0 ≤ x → zV G X M lv rest tgt) (kf : ¬ 0 ≤ x → zV G X M lv rest (pc + 3)) : zV G X M lv (.int x :: rest) pc := by
  obtain ⟨p, l, e, R, s, m, args, below, meth, c, cells, slots, Q, nL1⟩ := X
  obtain ⟨hx, hb, hml, rfl, hown, hts, hnw, hK, hAd, hSt, hfr, hlo, hce, hsl⟩ := C
  intro H locs ls hP hS hl
  exact lv_if_ge hx hb hd ht (fun q => kt q H locs ls hP hS hl) (fun q => kf q H locs ls hP hS hl)
theorem zr_icmp_gt {x y : Int32} {off : Int} (C : zC G X cc own h nL) (tgt : Nat) (hd : decode cc pc = .ok (.if_icmp .gt off, 3)) (ht : (pc : Int) + off = (tgt : Int)) (kt : y < x → zV G X M lv rest tgt) (kf : ¬ y < x → zV G X M lv rest (pc + 3)) : zV G X M lv (.int y :: .int x :: rest) pc := by
  obtain ⟨p, l, e, R, s, m, args, below, meth, c, cells, slots, Q, nL1⟩ := X
  obtain ⟨hx, hb, hml, rfl, hown, hts, hnw, hK, hAd, hSt, hfr, hlo, hce, hsl⟩ := C
  intro H locs ls hP hS hl
  exact lv_icmp_gt hx hb hd ht (fun q => kt q H locs ls hP hS hl) (fun q => kf q H locs ls hP hS hl)
theorem zr_if_gt {x : Int32} {off : Int} (C : zC G X cc own h nL) (tgt : Nat) (hd : decode cc pc = .ok (.ifCond .gt off, 3)) (ht : (pc : Int) + off = (tgt : Int)) (kt : 0 < x → zV G X M lv rest tgt) (kf : ¬ 0 < x → zV G X M lv rest (pc + 3)) : zV G X M lv (.int x :: rest) pc := by
  obtain ⟨p, l, e, R, s, m, args, below, meth, c, cells, slots, Q, nL1⟩ := X
  obtain ⟨hx, hb, hml, rfl, hown, hts, hnw, hK, hAd, hSt, hfr, hlo, hce, hsl⟩ := C
  intro H locs ls hP hS hl
  exact lv_if_gt hx hb hd ht (fun q => kt q H locs ls hP hS hl) (fun q => kf q H locs ls hP hS hl)
theorem zr_icmp_le {x y : Int32} {off : Int} (C : zC G X cc own h nL) (tgt : Nat) (hd : decode cc pc = .ok (.if_icmp .le off, 3)) (ht : (pc : Int) + off = (tgt : Int)) (kt : x ≤ y → zV G X M lv rest tgt) (kf : ¬ x ≤ y → zV G X M lv rest (pc + 3)) : zV G X M lv (.int y :: .int x :: rest) pc := by
  obtain ⟨p, l, e, R, s, m, args, below, meth, c, cells, slots, Q, nL1⟩ := X
  obtain ⟨hx, hb, hml, rfl, hown, hts, hnw, hK, hAd, hSt, hfr, hlo, hce, hsl⟩ := C
  intro H locs ls hP hS hl
  exact lv_icmp_le hx hb hd ht (fun q => kt q H locs ls hP hS hl) (fun q => kf q H locs ls hP hS hl)
theorem zr_if_le {x : Int32} {off : Int} (C : zC G X cc own h nL) (tgt : Nat) (hd : decode cc pc = .ok (.ifCond .le off, 3)) (ht : (pc : Int) + off = (tgt : Int)) (kt : x ≤ 0 → zV G X M lv rest tgt) (kf : ¬ x ≤ 0 → zV G X M lv rest (pc + 3)) : zV G X M lv (.int x :: rest) pc := by
  obtain ⟨p, l, e, R, s, m, args, below, meth, c, cells, slots, Q, nL1⟩ := X
  obtain ⟨hx, hb, hml, rfl, hown, hts, hnw, hK, hAd, hSt, hfr, hlo, hce, hsl⟩ := C
  intro H locs ls hP hS hl
  exact lv_if_le hx hb hd ht (fun q => kt q H locs ls hP hS hl) (fun q => kf q H locs ls hP hS hl)
theorem zr_lcmp_eq {x y : Int64} {off : Int} (C : zC G X cc own h nL) (tgt : Nat) (hd0 : decode cc pc = .ok (.lcmp, 1)) (hd : decode cc (pc + 1) = .ok (.ifCond .eq off, 3)) (ht : ((pc + 1 : Nat) : Int) + off = (tgt : Int)) (kt : x = y → zV G X M lv rest tgt) (kf : ¬ x = y → zV G X M lv rest (pc + 1 + 3)) : zV G X M lv (.long y :: .long x :: rest) pc := by
  obtain ⟨p, l, e, R, s, m, args, below, meth, c, cells, slots, Q, nL1⟩ := X
  obtain ⟨hx, hb, hml, rfl, hown, hts, hnw, hK, hAd, hSt, hfr, hlo, hce, hsl⟩ := C
  intro H locs ls hP hS hl
  exact W.lcmp hx hb hd0 (lv_if_eq hx hb hd ht (fun q => kt ((lg_cmp_eq x y).mp q) H locs ls hP hS hl) (fun q => kf (fun z => q ((lg_cmp_eq x y).mpr z)) H locs ls hP hS hl))
theorem zr_lcmp_ne {x y : Int64} {off : Int} (C : zC G X cc own h nL) (tgt : Nat) (hd0 : decode cc pc = .ok (.lcmp, 1)) (hd : decode cc (pc + 1) = .ok (.ifCond .ne off, 3)) (ht : ((pc + 1 : Nat) : Int) + off = (tgt : Int)) (kt : ¬ x = y → zV G X M lv rest tgt) (kf : x = y → zV G X M lv rest (pc + 1 + 3)) : zV G X M lv (.long y :: .long x :: rest) pc := by
  obtain ⟨p, l, e, R, s, m, args, below, meth, c, cells, slots, Q, nL1⟩ := X
  obtain ⟨hx, hb, hml, rfl, hown, hts, hnw, hK, hAd, hSt, hfr, hlo, hce, hsl⟩ := C
  intro H locs ls hP hS hl
  exact W.lcmp hx hb hd0 (lv_if_ne hx hb hd ht (fun q => kt (fun z => q ((lg_cmp_eq x y).mpr z)) H locs ls hP hS hl) (fun q => kf ((lg_cmp_eq x y).mp q) H locs ls hP hS hl))
theorem zr_lcmp_lt {x y : Int64} {off : Int} (C : zC G X cc own h nL) (tgt : Nat) (hd0 : decode cc pc = .ok (.lcmp, 1)) (hd : decode cc (pc + 1) = .ok (.ifCond .lt off, 3)) (ht : ((pc + 1 : Nat) : Int) + off = (tgt : Int)) (kt : x < y → zV G X M lv rest tgt) (kf : ¬ x < y → zV G X M lv rest (pc + 1 + 3)) : zV G X M lv (.long y :: .long x :: rest) pc := by
  obtain ⟨p, l, e, R, s, m, args, below, meth, c, cells, slots, Q, nL1⟩ := X
  obtain ⟨hx, hb, hml, rfl, hown, hts, hnw, hK, hAd, hSt, hfr, hlo, hce, hsl⟩ := C
  intro H locs ls hP hS hl
  exact W.lcmp hx hb hd0 (lv_if_lt hx hb hd ht (fun q => kt ((lg_cmp_lt x y).mp q) H locs ls hP hS hl) (fun q => kf (fun z => q ((lg_cmp_lt x y).mpr z)) H locs ls hP hS hl))
theorem zr_lcmp_ge {x y : Int64} {off : Int} (C : zC G X cc own h nL) (tgt : Nat) (hd0 : decode cc pc = .ok (.lcmp, 1)) (hd : decode cc (pc + 1) = .ok (.ifCond .ge off, 3)) (ht : ((pc + 1 : Nat) : Int) + off = (tgt : Int)) (kt : y ≤ x → zV G X M lv rest tgt) (kf : ¬ y ≤ x → zV G X M lv rest (pc + 1 + 3)) : zV G X M lv (.long y :: .long x :: rest) pc := by
  obtain ⟨p, l, e, R, s, m, args, below, meth, c, cells, slots, Q, nL1⟩ := X
  obtain ⟨hx, hb, hml, rfl, hown, hts, hnw, hK, hAd, hSt, hfr, hlo, hce, hsl⟩ := C
  intro H locs ls hP hS hl
  exact W.lcmp hx hb hd0 (lv_if_ge hx hb hd ht (fun q => kt ((lg_cmp_ge x y).mp q) H locs ls hP hS hl) (fun q => kf (fun z => q ((lg_cmp_ge x y).mpr z)) H locs ls hP hS hl))
theorem zr_lcmp_gt {x y : Int64} {off : Int} (C : zC G X cc own h nL) (tgt : Nat) (hd0 : decode cc pc = .ok (.lcmp, 1)) (hd : decode cc (pc + 1) = .ok (.ifCond .gt off, 3)) (ht : ((pc + 1 : Nat) : Int) + off = (tgt : Int)) (kt : y < x → zV G X M lv rest tgt) (kf : ¬ y < x → zV G X M lv rest (pc + 1 + 3)) : zV G X M lv (.long y :: .long x :: rest) pc := by
  obtain ⟨p, l, e, R, s, m, args, below, meth, c, cells, slots, Q, nL1⟩ := X
  obtain ⟨hx, hb, hml, rfl, hown, hts, hnw, hK, hAd, hSt, hfr, hlo, hce, hsl⟩ := C
  intro H locs ls hP hS hl
  exact W.lcmp hx hb hd0 (lv_if_gt hx hb hd ht (fun q => kt ((lg_cmp_gt x y).mp q) H locs ls hP hS hl) (fun q => kf (fun z => q ((lg_cmp_gt x y).mpr z)) H locs ls hP hS hl))
theorem zr_lcmp_le {x y : Int64} {off : Int} (C : zC G X cc own h nL) (tgt : Nat) (hd0 : decode cc pc = .ok (.lcmp, 1)) (hd : decode cc (pc + 1) = .ok (.ifCond .le off, 3)) (ht : ((pc + 1 : Nat) : Int) + off = (tgt : Int)) (kt : x ≤ y → zV G X M lv rest tgt) (kf : ¬ x ≤ y → zV G X M lv rest (pc + 1 + 3)) : zV G X M lv (.long y :: .long x :: rest) pc := by
  obtain ⟨p, l, e, R, s, m, args, below, meth, c, cells, slots, Q, nL1⟩ := X
  obtain ⟨hx, hb, hml, rfl, hown, hts, hnw, hK, hAd, hSt, hfr, hlo, hce, hsl⟩ := C
  intro H locs ls hP hS hl
  exact W.lcmp hx hb hd0 (lv_if_le hx hb hd ht (fun q => kt ((lg_cmp_le x y).mp q) H locs ls hP hS hl) (fun q => kf (fun z => q ((lg_cmp_le x y).mpr z)) H locs ls hP hS hl))
theorem zr_goto {off : Int} {st : List Value} (C : zC G X cc own h nL) (tgt : Nat) (hd : decode cc pc = .ok (.goto off, 3)) (ht : (pc : Int) + off = (tgt : Int)) (k : zV G X M lv st tgt) : zV G X M lv st pc := by
  obtain ⟨p, l, e, R, s, m, args, below, meth, c, cells, slots, Q, nL1⟩ := X
  obtain ⟨hx, hb, hml, rfl, hown, hts, hnw, hK, hAd, hSt, hfr, hlo, hce, hsl⟩ := C
  intro H locs ls hP hS hl
  exact lv_goto hx hb hd ht (k H locs ls hP hS hl)
theorem zr_letI {st : List Value} {v : Int32} (k : ∀ x : Int32, x = v → zV G X M lv (.int x :: st) pc) : zV G X M lv (.int v :: st) pc := k v rfl
theorem zr_letL {st : List Value} {v : Int64} (k : ∀ x : Int64, x = v → zV G X M lv (.long x :: st) pc) : zV G X M lv (.long v :: st) pc := k v rfl
theorem zr_get {o ci i kk : Nat} {Cn : String} {Tn : u_T} {Nn : Nat} {fs : List Value} {v : Value} (C : zC G X cc own h nL) (ho : zkd o = ci) (hci : ci < 99) (he : zent G M o = .inr (ci, fs)) (hc : vwCl[ci]? = some (Cn, Tn, Nn)) (hin : ∀ w ∈ u_ws Cn Tn Nn, w ∈ zgw) (hk : kk < Nn) (hw : Cond.fieldLink own i (Tn kk).1 (Tn kk).2.1 (Tn kk).2.2.1 ∈ zgw) (hv : fs[kk]? = some v) (hd : decode cc pc = .ok (.getfield i, 3)) (k : zV G X M lv (v :: rest) (pc + 3)) : zV G X M lv (zR G o :: rest) pc := by
  obtain ⟨p, l, e, R, s, m, args, below, meth, c, cells, slots, Q, nL1⟩ := X
  obtain ⟨hx, hb, hml, rfl, hown, hts, hnw, hK, hAd, hSt, hfr, hlo, hce, hsl⟩ := C
  intro H locs ls hP hS hl
  exact va_get (D := G.2.1) (ci := ci) (v := v) (C := Cn) (T := Tn) (N := Nn) hx hb hts hin hown hK hP o ((zWd_at G M (zkd_lt ho hci)).trans (by rw [he])) hc kk hk (hts _ hw) (fun _ h9 => h9) hv hd (k H locs ls hP hS hl)
theorem zr_getN {o ci i kk : Nat} {Cn host : String} {Tn : u_T} {Nn : Nat} {fs : List Value} {v : Value} (C : zC G X cc own h nL) (ho : zkd o = ci) (hci : ci < 99) (he : zent G M o = .inr (ci, fs)) (hc : vwCl[ci]? = some (Cn, Tn, Nn)) (hin : ∀ w ∈ u_ws Cn Tn Nn, w ∈ zgw) (hk : kk < Nn) (hw : Cond.fieldLinkNest own i (Tn kk).1 (Tn kk).2.1 (Tn kk).2.2.1 host ∈ znw) (hv : fs[kk]? = some v) (hd : decode cc pc = .ok (.getfield i, 3)) (k : zV G X M lv (v :: rest) (pc + 3)) : zV G X M lv (zR G o :: rest) pc := by
  obtain ⟨p, l, e, R, s, m, args, below, meth, c, cells, slots, Q, nL1⟩ := X
  obtain ⟨hx, hb, hml, rfl, hown, hts, hnw, hK, hAd, hSt, hfr, hlo, hce, hsl⟩ := C
  intro H locs ls hP hS hl
  exact va_getN (D := G.2.1) (ci := ci) (v := v) (C := Cn) (T := Tn) (N := Nn) hx hb hts hin hown hK hP o ((zWd_at G M (zkd_lt ho hci)).trans (by rw [he])) hc kk hk (va_Nw.use rfl (hnw _ hw)) (fun _ h9 => h9) hv hd (k H locs ls hP hS hl)
theorem zr_put {o ci i kk : Nat} {Cn : String} {Tn : u_T} {Nn : Nat} {fs : List Value} {v : Int32} {ty : FieldType} (C : zC G X cc own h nL) (ho : zkd o = ci) (hci : ci < 99) (he : zent G M o = .inr (ci, fs)) (hc : vwCl[ci]? = some (Cn, Tn, Nn)) (hin : ∀ w ∈ u_ws Cn Tn Nn, w ∈ zgw) (ty0 : Nat → FieldType) (hty : ∀ k, k < Nn → parseFieldDescriptor (Tn k).2.2.1 = some (ty0 k)) (hnm : ∀ a, a < Nn → ∀ b, b < Nn → a ≠ b → (Tn a).2.1 ≠ (Tn b).2.1) (hk : kk < Nn) (hw : Cond.fieldLink own i (Tn kk).1 (Tn kk).2.1 (Tn kk).2.2.1 ∈ zgw) (hfin : (Tn kk).2.2.2 = false) (ht0 : parseFieldDescriptor (Tn kk).2.2.1 = some ty) (hnr : narrow ty (.int v) = .int v) (hft : fits ty (.int v) = true) (hfl : kk < fs.length) (hp : zent G (zwI M o kk v) o = .inr (ci, fs.set kk (.int v))) (hd : decode cc pc = .ok (.putfield i, 3)) (k : zV G X (zwI M o kk v) lv rest (pc + 3)) : zV G X M lv (.int v :: zR G o :: rest) pc := by
  obtain ⟨p, l, e, R, s, m, args, below, meth, c, cells, slots, Q, nL1⟩ := X
  obtain ⟨hx, hb, hml, rfl, hown, hts, hnw, hK, hAd, hSt, hfr, hlo, hce, hsl⟩ := C
  intro H locs ls hP hS hl
  refine va_put (D := G.2.1) (ci := ci) (v := .int v) (ty := ty) (C := Cn) (T := Tn) (N := Nn) hx hb hts hin ty0 hty hnm hown hK hP (zWd_D hAd M) hS o ((zWd_at G M (zkd_lt ho hci)).trans (by rw [he])) hc kk hk (hts _ hw) (fun _ h9 => h9) hfin ht0 hnr hft hfl hd (fun H1 locs1 hP1 _ hS1 => ?_)
  rw [zset_I (zkd_lt ho hci) hp] at hP1
  exact k H1 locs1 ls hP1 hS1 hl
theorem zr_putN {o ci i kk : Nat} {Cn host : String} {Tn : u_T} {Nn : Nat} {fs : List Value} {v : Int32} {ty : FieldType} (C : zC G X cc own h nL) (ho : zkd o = ci) (hci : ci < 99) (he : zent G M o = .inr (ci, fs)) (hc : vwCl[ci]? = some (Cn, Tn, Nn)) (hin : ∀ w ∈ u_ws Cn Tn Nn, w ∈ zgw) (ty0 : Nat → FieldType) (hty : ∀ k, k < Nn → parseFieldDescriptor (Tn k).2.2.1 = some (ty0 k)) (hnm : ∀ a, a < Nn → ∀ b, b < Nn → a ≠ b → (Tn a).2.1 ≠ (Tn b).2.1) (hk : kk < Nn) (hw : Cond.fieldLinkNest own i (Tn kk).1 (Tn kk).2.1 (Tn kk).2.2.1 host ∈ znw) (hfin : (Tn kk).2.2.2 = false) (ht0 : parseFieldDescriptor (Tn kk).2.2.1 = some ty) (hnr : narrow ty (.int v) = .int v) (hft : fits ty (.int v) = true) (hfl : kk < fs.length) (hp : zent G (zwI M o kk v) o = .inr (ci, fs.set kk (.int v))) (hd : decode cc pc = .ok (.putfield i, 3)) (k : zV G X (zwI M o kk v) lv rest (pc + 3)) : zV G X M lv (.int v :: zR G o :: rest) pc := by
  obtain ⟨p, l, e, R, s, m, args, below, meth, c, cells, slots, Q, nL1⟩ := X
  obtain ⟨hx, hb, hml, rfl, hown, hts, hnw, hK, hAd, hSt, hfr, hlo, hce, hsl⟩ := C
  intro H locs ls hP hS hl
  refine va_putN (D := G.2.1) (ci := ci) (v := .int v) (ty := ty) (C := Cn) (T := Tn) (N := Nn) hx hb hts hin ty0 hty hnm hown hK hP (zWd_D hAd M) hS o ((zWd_at G M (zkd_lt ho hci)).trans (by rw [he])) hc kk hk (va_Nw.use rfl (hnw _ hw)) (fun _ h9 => h9) hfin ht0 hnr hft hfl hd (fun H1 locs1 hP1 _ hS1 => ?_)
  rw [zset_I (zkd_lt ho hci) hp] at hP1
  exact k H1 locs1 ls hP1 hS1 hl
theorem zr_iald {o n : Nat} {i : Int32} (C : zC G X cc own h nL) (ho : zkd o = 8 ∧ zln o = n) (hin : vp_in i n) (hd : decode cc pc = .ok (.iaload, 1)) (k : zV G X M lv (.int (zrd M o i) :: rest) (pc + 1)) : zV G X M lv (.int i :: zR G o :: rest) pc := by
  obtain ⟨p, l, e, R, s, m, args, below, meth, c, cells, slots, Q, nL1⟩ := X
  obtain ⟨hx, hb, hml, rfl, hown, hts, hnw, hK, hAd, hSt, hfr, hlo, hce, hsl⟩ := C
  intro H locs ls hP hS hl
  exact va_iald (D := G.2.1) hx hb hK hP o 0 ((zWd_at G M (zkd_lt ho.1 (by decide))).trans (by rw [zent_8 ho.1])) rfl (by rw [ho.2]; exact hin) hd (k H locs ls hP hS hl)
theorem zr_zald {o n : Nat} {i : Int32} (C : zC G X cc own h nL) (ho : zkd o = 10 ∧ zln o = n) (hin : vp_in i n) (hd : decode cc pc = .ok (.baload, 1)) (k : zV G X M lv (.int (zrd M o i) :: rest) (pc + 1)) : zV G X M lv (.int i :: zR G o :: rest) pc := by
  obtain ⟨p, l, e, R, s, m, args, below, meth, c, cells, slots, Q, nL1⟩ := X
  obtain ⟨hx, hb, hml, rfl, hown, hts, hnw, hK, hAd, hSt, hfr, hlo, hce, hsl⟩ := C
  intro H locs ls hP hS hl
  exact va_zald (D := G.2.1) hx hb hK hP o 2 ((zWd_at G M (zkd_lt ho.1 (by decide))).trans (by rw [zent_10 ho.1])) rfl (by rw [ho.2]; exact hin) hd (k H locs ls hP hS hl)
theorem zr_lald {o n : Nat} {i : Int32} (C : zC G X cc own h nL) (ho : zkd o = 9 ∧ zln o = n) (hin : vp_in i n) (hd : decode cc pc = .ok (.laload, 1)) (k : zV G X M lv (.long (zrdJ M o i) :: rest) (pc + 1)) : zV G X M lv (.int i :: zR G o :: rest) pc := by
  obtain ⟨p, l, e, R, s, m, args, below, meth, c, cells, slots, Q, nL1⟩ := X
  obtain ⟨hx, hb, hml, rfl, hown, hts, hnw, hK, hAd, hSt, hfr, hlo, hce, hsl⟩ := C
  intro H locs ls hP hS hl
  exact va_lald (D := G.2.1) hx hb hK hP o 1 ((zWd_at G M (zkd_lt ho.1 (by decide))).trans (by rw [zent_9 ho.1])) rfl (by rw [ho.2]; exact hin) hd (k H locs ls hP hS hl)
theorem zr_aald {i : Int32} (C : zC G X cc own h nL) (hin : vp_in i 4) (hd : decode cc pc = .ok (.aaload, 1)) (k : zV G X M lv (zR G (5 + 6 * i.toNatClampNeg) :: rest) (pc + 1)) : zV G X M lv (.int i :: zR G 4 :: rest) pc := by
  obtain ⟨p, l, e, R, s, m, args, below, meth, c, cells, slots, Q, nL1⟩ := X
  obtain ⟨hx, hb, hml, rfl, hown, hts, hnw, hK, hAd, hSt, hfr, hlo, hce, hsl⟩ := C
  intro H locs ls hP hS hl
  exact va_aldq (D := G.2.1) (f := fun k => some (G.2.2.2.1 (5 + 6 * k))) hx hb hK hP 4 3 ((zWd_at G M (by decide)).trans (by rw [zent_11 (by decide +kernel)])) rfl hin hd (k H locs ls hP hS hl)
theorem zr_iast {o n : Nat} {i : Int32} {x : Int32} (C : zC G X cc own h nL) (ho : zkd o = 8 ∧ zln o = n) (hin : vp_in i n) (hd : decode cc pc = .ok (.iastore, 1)) (k : zV G X (zst M o i x) lv rest (pc + 1)) : zV G X M lv (.int x :: .int i :: zR G o :: rest) pc := by
  obtain ⟨p, l, e, R, s, m, args, below, meth, c, cells, slots, Q, nL1⟩ := X
  obtain ⟨hx, hb, hml, rfl, hown, hts, hnw, hK, hAd, hSt, hfr, hlo, hce, hsl⟩ := C
  intro H locs ls hP hS hl
  refine va_iast (D := G.2.1) hx hb hK hP (zWd_D hAd M) hS o 0 ((zWd_at G M (zkd_lt ho.1 (by decide))).trans (by rw [zent_8 ho.1])) rfl (by rw [ho.2]; exact hin) hd (fun H1 locs1 hP1 _ hS1 => ?_)
  rw [zset_I (zkd_lt ho.1 (by decide)) (k := i.toNatClampNeg) (v := x) (by rw [zent_8 ho.1, zwI_s])] at hP1
  exact k H1 locs1 ls hP1 hS1 hl
theorem zr_last {o n : Nat} {i : Int32} {x : Int64} (C : zC G X cc own h nL) (ho : zkd o = 9 ∧ zln o = n) (hin : vp_in i n) (hd : decode cc pc = .ok (.lastore, 1)) (k : zV G X (zstJ M o i x) lv rest (pc + 1)) : zV G X M lv (.long x :: .int i :: zR G o :: rest) pc := by
  obtain ⟨p, l, e, R, s, m, args, below, meth, c, cells, slots, Q, nL1⟩ := X
  obtain ⟨hx, hb, hml, rfl, hown, hts, hnw, hK, hAd, hSt, hfr, hlo, hce, hsl⟩ := C
  intro H locs ls hP hS hl
  refine va_last (D := G.2.1) hx hb hK hP (zWd_D hAd M) hS o 1 ((zWd_at G M (zkd_lt ho.1 (by decide))).trans (by rw [zent_9 ho.1])) rfl (by rw [ho.2]; exact hin) hd (fun H1 locs1 hP1 _ hS1 => ?_)
  rw [zset_J (zkd_lt ho.1 (by decide)) (k := i.toNatClampNeg) (v := x) (by rw [zent_9 ho.1, zwJ_s])] at hP1
  exact k H1 locs1 ls hP1 hS1 hl
theorem zr_zast {o n : Nat} {i : Int32} {x : Int32} (C : zC G X cc own h nL) (ho : zkd o = 10 ∧ zln o = n) (hin : vp_in i n) (hd : decode cc pc = .ok (.bastore, 1)) (k : zV G X (zst M o i (vp_nar .boolean x)) lv rest (pc + 1)) : zV G X M lv (.int x :: .int i :: zR G o :: rest) pc := by
  obtain ⟨p, l, e, R, s, m, args, below, meth, c, cells, slots, Q, nL1⟩ := X
  obtain ⟨hx, hb, hml, rfl, hown, hts, hnw, hK, hAd, hSt, hfr, hlo, hce, hsl⟩ := C
  intro H locs ls hP hS hl
  refine va_zast (D := G.2.1) hx hb hK hP (zWd_D hAd M) hS o 2 ((zWd_at G M (zkd_lt ho.1 (by decide))).trans (by rw [zent_10 ho.1])) rfl (by rw [ho.2]; exact hin) hd (fun H1 locs1 hP1 _ hS1 => ?_)
  rw [zset_I (zkd_lt ho.1 (by decide)) (k := i.toNatClampNeg) (v := vp_nar .boolean x) (by rw [zent_10 ho.1, zwI_s])] at hP1
  exact k H1 locs1 ls hP1 hS1 hl
theorem zr_gets {i : Nat} (C : zC G X cc own h nL) (hw : Cond.fieldLinkNest own i "CurveMeetings" "AREA_WEIGHTS" "[I" "CurveMeetings" ∈ znw) (hd : decode cc pc = .ok (.getstatic i, 3)) (k : zV G X M lv (zRw G :: rest) (pc + 3)) : zV G X M lv rest pc := by
  obtain ⟨p, l, e, R, s, m, args, below, meth, c, cells, slots, Q, nL1⟩ := X
  obtain ⟨hx, hb, hml, rfl, hown, hts, hnw, hK, hAd, hSt, hfr, hlo, hce, hsl⟩ := C
  intro H locs ls hP hS hl
  exact va_getsN hx hb hSt.1 hS hown (va_Nw.use rfl (hnw _ hw)) (fun _ h9 => h9) hd (k H locs ls hP hS hl)
theorem zr_tald {i : Int32} (C : zC G X cc own h nL) (hin : vp_in i 16) (hd : decode cc pc = .ok (.iaload, 1)) (k : zV G X M lv (.int (zaw i.toNatClampNeg) :: rest) (pc + 1)) : zV G X M lv (.int i :: zRw G :: rest) pc := by
  obtain ⟨p, l, e, R, s, m, args, below, meth, c, cells, slots, Q, nL1⟩ := X
  obtain ⟨hx, hb, hml, rfl, hown, hts, hnw, hK, hAd, hSt, hfr, hlo, hce, hsl⟩ := C
  intro H locs ls hP hS hl
  exact va_ti hx hb hSt.2 hS hin rfl hd (k H locs ls hP hS hl)
theorem zr_lookup {dflt : Int} {ps : Array (Int × Int)} {len : Nat} {x : Int32} {off : Int} (C : zC G X cc own h nL) (tgt : Nat) (hd : decode cc pc = .ok (.lookupswitch dflt ps, len)) (hp : (ps.toList.zip (ps.toList.drop 1)).all (fun (a, next) => a.1 < next.1) = true) (ho : Op.lookupswitch.offset ps.toList dflt x.toInt = off) (ht : (pc : Int) + off = (tgt : Int)) (k : zV G X M lv rest tgt) : zV G X M lv (.int x :: rest) pc := by
  obtain ⟨p, l, e, R, s, m, args, below, meth, c, cells, slots, Q, nL1⟩ := X
  obtain ⟨hx, hb, hml, rfl, hown, hts, hnw, hK, hAd, hSt, hfr, hlo, hce, hsl⟩ := C
  intro H locs ls hP hS hl
  exact lv_lookup hx hb hd hp ho ht (k H locs ls hP hS hl)
theorem zr_tableOut {dflt lo hi : Int} {offs : Array Int} {len : Nat} {x : Int32} (C : zC G X cc own h nL) (tgt : Nat) (hd : decode cc pc = .ok (.tableswitch dflt lo hi offs, len)) (h0 : x.toInt < lo ∨ hi < x.toInt) (ht : (pc : Int) + dflt = (tgt : Int)) (k : zV G X M lv rest tgt) : zV G X M lv (.int x :: rest) pc := by
  obtain ⟨p, l, e, R, s, m, args, below, meth, c, cells, slots, Q, nL1⟩ := X
  obtain ⟨hx, hb, hml, rfl, hown, hts, hnw, hK, hAd, hSt, hfr, hlo, hce, hsl⟩ := C
  intro H locs ls hP hS hl
  exact lv_tableOut hx hb hd h0 ht (k H locs ls hP hS hl)
theorem zr_tableIn {dflt lo hi : Int} {offs : Array Int} {len : Nat} {x : Int32} {off : Int} (C : zC G X cc own h nL) (tgt : Nat) (hd : decode cc pc = .ok (.tableswitch dflt lo hi offs, len)) (h1 : ¬ x.toInt < lo) (h2 : ¬ hi < x.toInt) (ho : offs[(x.toInt - lo).toNat]? = some off) (ht : (pc : Int) + off = (tgt : Int)) (k : zV G X M lv rest tgt) : zV G X M lv (.int x :: rest) pc := by
  obtain ⟨p, l, e, R, s, m, args, below, meth, c, cells, slots, Q, nL1⟩ := X
  obtain ⟨hx, hb, hml, rfl, hown, hts, hnw, hK, hAd, hSt, hfr, hlo, hce, hsl⟩ := C
  intro H locs ls hP hS hl
  exact lv_tableIn hx hb hd h1 h2 ho ht (k H locs ls hP hS hl)
theorem zr_mmax {x y : Int32} (C : zC G X cc own h nL) {i : Nat} (hw : Cond.methodLink own i Lib.Math.max.name ∈ zgw) (hw2 : Cond.static Lib.Math.max.name ∈ zgw ∧ Cond.initialized "java/lang/Math" ∈ zgw ∧ Cond.code Lib.Math.max.name Lib.Math.max.code 2 (some .int) ∈ zgw) (hh : 1 ≤ h) (hr : (rest.map fun v => v.category).sum ≤ 100) (hd : decode cc pc = .ok (.invokestatic i, 3)) (k : zV G X M lv (.int (if x < y then y else x) :: rest) (pc + 3)) : zV G X M lv (.int y :: .int x :: rest) pc := by
  obtain ⟨p, l, e, R, s, m, args, below, meth, c, cells, slots, Q, nL1⟩ := X
  obtain ⟨hx, hb, hml, rfl, hown, hts, hnw, hK, hAd, hSt, hfr, hlo, hce, hsl⟩ := C
  intro H locs ls hP hS hl
  exact va_mmax hx hb (hml.trans hl.1.symm) hown (hts _ hw) (hts _ hw2.1) (hts _ hw2.2.1) (hts _ hw2.2.2) (by omega) (by omega) hce hsl hd (k H locs ls hP hS hl)
theorem zr_mmin {x y : Int32} (C : zC G X cc own h nL) {i : Nat} (hw : Cond.methodLink own i Lib.Math.min.name ∈ zgw) (hw2 : Cond.static Lib.Math.min.name ∈ zgw ∧ Cond.initialized "java/lang/Math" ∈ zgw ∧ Cond.code Lib.Math.min.name Lib.Math.min.code 2 (some .int) ∈ zgw) (hh : 1 ≤ h) (hr : (rest.map fun v => v.category).sum ≤ 100) (hd : decode cc pc = .ok (.invokestatic i, 3)) (k : zV G X M lv (.int (if y < x then y else x) :: rest) (pc + 3)) : zV G X M lv (.int y :: .int x :: rest) pc := by
  obtain ⟨p, l, e, R, s, m, args, below, meth, c, cells, slots, Q, nL1⟩ := X
  obtain ⟨hx, hb, hml, rfl, hown, hts, hnw, hK, hAd, hSt, hfr, hlo, hce, hsl⟩ := C
  intro H locs ls hP hS hl
  exact va_mmin hx hb (hml.trans hl.1.symm) hown (hts _ hw) (hts _ hw2.1) (hts _ hw2.2.1) (hts _ hw2.2.2) (by omega) (by omega) hce hsl hd (k H locs ls hP hS hl)
theorem zr_mabs {x : Int32} (C : zC G X cc own h nL) {i : Nat} (hw : Cond.methodLink own i Lib.Math.abs.name ∈ zgw) (hw2 : Cond.static Lib.Math.abs.name ∈ zgw ∧ Cond.initialized "java/lang/Math" ∈ zgw ∧ Cond.code Lib.Math.abs.name Lib.Math.abs.code 1 (some .int) ∈ zgw) (hh : 1 ≤ h) (hr : (rest.map fun v => v.category).sum ≤ 100) (hd : decode cc pc = .ok (.invokestatic i, 3)) (k : zV G X M lv (.int (if 0 ≤ x then x else 0 - x) :: rest) (pc + 3)) : zV G X M lv (.int x :: rest) pc := by
  obtain ⟨p, l, e, R, s, m, args, below, meth, c, cells, slots, Q, nL1⟩ := X
  obtain ⟨hx, hb, hml, rfl, hown, hts, hnw, hK, hAd, hSt, hfr, hlo, hce, hsl⟩ := C
  intro H locs ls hP hS hl
  exact va_mabs hx hb (hml.trans hl.1.symm) hown (hts _ hw) (hts _ hw2.1) (hts _ hw2.2.1) (hts _ hw2.2.2) (by omega) (by omega) hce hsl hd (k H locs ls hP hS hl)
theorem zr_mmaxL {x y : Int64} (C : zC G X cc own h nL) {i : Nat} (hw : Cond.methodLink own i Lib.MathLoose.max_long.x ∈ zgw) (hw2 : Cond.static Lib.MathLoose.max_long.x ∈ zgw ∧ Cond.initialized "java/lang/Math" ∈ zgw ∧ Cond.code Lib.MathLoose.max_long.x Lib.MathLoose.max_long.code 4 (some .long) ∈ zgw) (hh : 1 ≤ h) (hr : (rest.map fun v => v.category).sum ≤ 100) (hd : decode cc pc = .ok (.invokestatic i, 3)) (k : zV G X M lv (.long (if y < x then x else y) :: rest) (pc + 3)) : zV G X M lv (.long y :: .long x :: rest) pc := by
  obtain ⟨p, l, e, R, s, m, args, below, meth, c, cells, slots, Q, nL1⟩ := X
  obtain ⟨hx, hb, hml, rfl, hown, hts, hnw, hK, hAd, hSt, hfr, hlo, hce, hsl⟩ := C
  intro H locs ls hP hS hl
  exact va_mmax_long hx hb (hml.trans hl.1.symm) hown (hts _ hw) (hts _ hw2.1) (hts _ hw2.2.1) (hts _ hw2.2.2) (by omega) (by omega) hce hsl hd (k H locs ls hP hS hl)
theorem zr_mminL {x y : Int64} (C : zC G X cc own h nL) {i : Nat} (hw : Cond.methodLink own i Lib.MathLoose.min_long.x ∈ zgw) (hw2 : Cond.static Lib.MathLoose.min_long.x ∈ zgw ∧ Cond.initialized "java/lang/Math" ∈ zgw ∧ Cond.code Lib.MathLoose.min_long.x Lib.MathLoose.min_long.code 4 (some .long) ∈ zgw) (hh : 1 ≤ h) (hr : (rest.map fun v => v.category).sum ≤ 100) (hd : decode cc pc = .ok (.invokestatic i, 3)) (k : zV G X M lv (.long (if y < x then y else x) :: rest) (pc + 3)) : zV G X M lv (.long y :: .long x :: rest) pc := by
  obtain ⟨p, l, e, R, s, m, args, below, meth, c, cells, slots, Q, nL1⟩ := X
  obtain ⟨hx, hb, hml, rfl, hown, hts, hnw, hK, hAd, hSt, hfr, hlo, hce, hsl⟩ := C
  intro H locs ls hP hS hl
  exact va_mmin_long hx hb (hml.trans hl.1.symm) hown (hts _ hw) (hts _ hw2.1) (hts _ hw2.2.1) (hts _ hw2.2.2) (by omega) (by omega) hce hsl hd (k H locs ls hP hS hl)
theorem zr_copy {o0 o1 n0 n1 i : Nat} {sp dp n : Int32} (C : zC G X cc own h nL) (ho0 : zkd o0 = 8 ∧ zln o0 = n0) (ho1 : zkd o1 = 8 ∧ zln o1 = n1) (hw : Cond.methodLink own i arraycopyName ∈ zgw) (hw2 : Cond.native arraycopyName ∈ zgw ∧ Cond.static arraycopyName ∈ zgw ∧ Cond.initialized "java/lang/System" ∈ zgw) (hh : 1 ≤ h) (hr : (rest.map fun v => v.category).sum ≤ 100) (hb1 : ¬ sp < 0) (hb2 : ¬ dp < 0) (hb3 : ¬ n < 0) (hb4 : sp.toNatClampNeg + n.toNatClampNeg ≤ n0) (hb5 : dp.toNatClampNeg + n.toNatClampNeg ≤ n1) (hd : decode cc pc = .ok (.invokestatic i, 3)) (k : zV G X (zcp M o0 o1 sp.toNatClampNeg dp.toNatClampNeg n.toNatClampNeg) lv rest (pc + 3)) : zV G X M lv (.int n :: .int dp :: zR G o1 :: .int sp :: zR G o0 :: rest) pc := by
  obtain ⟨p, l, e, R, s, m, args, below, meth, c, cells, slots, Q, nL1⟩ := X
  obtain ⟨hx, hb, hml, rfl, hown, hts, hnw, hK, hAd, hSt, hfr, hlo, hce, hsl⟩ := C
  intro H locs ls hP hS hl
  refine va_copyi (D := G.2.1) hx hb (hml.trans hl.1.symm) hown (hts _ hw) (hts _ hw2.1) (hts _ hw2.2.1) (hts _ hw2.2.2) hK hP (zWd_D hAd M) hS o0 o1 0 0 (ty := .int) ((zWd_at G M (zkd_lt ho0.1 (by decide))).trans (by rw [zent_8 ho0.1])) ((zWd_at G M (zkd_lt ho1.1 (by decide))).trans (by rw [zent_8 ho1.1])) rfl rfl rfl hb1 hb2 hb3 (by rw [ho0.2]; exact hb4) (by rw [ho1.2]; exact hb5) (fun _ _ => rfl) (by omega) (Nat.le_trans (Nat.add_le_add hr (Nat.le_of_ble_eq_true rfl : nativeFrameWords "java/lang/System" "arraycopy" 5 + 11 ≤ 60)) (by omega)) hd (fun H1 locs1 hP1 _ hS1 => ?_)
  rw [zset_C (zkd_lt ho1.1 (by decide)) (by rw [zent_8 ho1.1, zcp_s])] at hP1
  exact k H1 locs1 ls hP1 hS1 hl
end ZR
