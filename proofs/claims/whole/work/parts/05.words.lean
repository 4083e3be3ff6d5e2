theorem zr_letM {G : zG} {X : zX} {M0 : zMem} {lv : List (Nat × Value)} {st : List Value} {pc : Nat} (k : ∀ M1 : zMem, M1 = M0 → zV G X M1 lv st pc) : zV G X M0 lv st pc := k M0 rfl
def zb (x : Int32) : Prop := narrow .boolean (.int x) = .int x ∧ fits .boolean (.int x) = true
theorem zb_0 : zb 0 := ⟨by decide +kernel, by decide +kernel⟩
theorem zb_1 : zb 1 := ⟨by decide +kernel, by decide +kernel⟩
theorem zsw_cases (x : Int32) (n : Nat) (hn : n + 1 < 2 ^ 31) : (x.toInt < 0 ∨ (n : Int) < x.toInt) ∨ ∃ j : Nat, j < n + 1 ∧ x = nI j := by
  rcases pk_ix x (n := n + 1) hn with h | h | h
  · exact Or.inl (Or.inl (by simpa using Int32.lt_iff_toInt_lt.mp h))
  · refine Or.inl (Or.inr ?_)
    have h1 := Int32.le_iff_toInt_le.mp h
    rw [nI_toInt hn] at h1
    omega
  · exact Or.inr h
theorem zlk_dflt {ps : List (Int × Int)} {dflt x : Int} (h : ∀ q ∈ ps, ¬ x = q.1) : Op.lookupswitch.offset ps dflt x = dflt := by
  induction ps with
  | nil => rfl
  | cons q r ih =>
    obtain ⟨a, b⟩ := q
    rw [Op.lookupswitch.offset_cons, if_neg (fun e => h (a, b) List.mem_cons_self e.symm)]
    exact ih (fun q hq => h q (List.mem_cons_of_mem _ hq))
theorem zlk2 {x : Int32} {a b : Int32} {p q : Int} (h1 : ¬ x = a) (h2 : ¬ x = b) : ∀ z ∈ [(a.toInt, p), (b.toInt, q)], ¬ x.toInt = z.1 := by
  intro z hz
  simp only [List.mem_cons, List.not_mem_nil, or_false] at hz
  rcases hz with rfl | rfl
  · exact fun e => h1 (Int32.toInt_inj.mp e)
  · exact fun e => h2 (Int32.toInt_inj.mp e)
theorem zlk3 {x : Int32} {a b c : Int32} {p q r : Int} (h1 : ¬ x = a) (h2 : ¬ x = b) (h3 : ¬ x = c) : ∀ z ∈ [(a.toInt, p), (b.toInt, q), (c.toInt, r)], ¬ x.toInt = z.1 := by
  intro z hz
  simp only [List.mem_cons, List.not_mem_nil, or_false] at hz
  rcases hz with rfl | rfl | rfl
  · exact fun e => h1 (Int32.toInt_inj.mp e)
  · exact fun e => h2 (Int32.toInt_inj.mp e)
  · exact fun e => h3 (Int32.toInt_inj.mp e)
theorem zo_0 : zkd 0 = 6 := by decide +kernel
theorem zo_1 : zkd 1 = 4 := by decide +kernel
theorem zo_29 : zkd 29 = 1 := by decide +kernel
theorem zo_32 : zkd 32 = 2 := by decide +kernel
theorem zo_35 : zkd 35 = 5 := by decide +kernel
theorem zo_38 : zkd 38 = 3 := by decide +kernel
theorem zo_47 : zkd 47 = 7 := by decide +kernel
theorem za_2 : zkd 2 = 8 ∧ zln 2 = 130 := by decide +kernel
theorem za_3 : zkd 3 = 8 ∧ zln 3 = 32 := by decide +kernel
theorem za_4 : zkd 4 = 11 ∧ zln 4 = 4 := by decide +kernel
theorem za_30 : zkd 30 = 8 ∧ zln 30 = 10 := by decide +kernel
theorem za_31 : zkd 31 = 8 ∧ zln 31 = 80 := by decide +kernel
theorem za_33 : zkd 33 = 10 ∧ zln 33 = 2 := by decide +kernel
theorem za_34 : zkd 34 = 8 ∧ zln 34 = 64 := by decide +kernel
theorem za_36 : zkd 36 = 8 ∧ zln 36 = 6 := by decide +kernel
theorem za_37 : zkd 37 = 8 ∧ zln 37 = 6 := by decide +kernel
theorem za_39 : zkd 39 = 8 ∧ zln 39 = 101 := by decide +kernel
theorem za_40 : zkd 40 = 8 ∧ zln 40 = 101 := by decide +kernel
theorem za_41 : zkd 41 = 10 ∧ zln 41 = 101 := by decide +kernel
theorem za_42 : zkd 42 = 8 ∧ zln 42 = 101 := by decide +kernel
theorem za_43 : zkd 43 = 8 ∧ zln 43 = 101 := by decide +kernel
theorem za_44 : zkd 44 = 8 ∧ zln 44 = 600 := by decide +kernel
theorem za_45 : zkd 45 = 8 ∧ zln 45 = 100 := by decide +kernel
theorem za_46 : zkd 46 = 8 ∧ zln 46 = 16 := by decide +kernel
theorem za_48 : zkd 48 = 8 ∧ zln 48 = 32 := by decide +kernel
theorem za_49 : zkd 49 = 8 ∧ zln 49 = 320 := by decide +kernel
theorem za_50 : zkd 50 = 8 ∧ zln 50 = 64 := by decide +kernel
theorem za_51 : zkd 51 = 10 ∧ zln 51 = 2 := by decide +kernel
theorem za_52 : zkd 52 = 8 ∧ zln 52 = 6 := by decide +kernel
theorem za_53 : zkd 53 = 8 ∧ zln 53 = 6 := by decide +kernel
theorem za_54 : zkd 54 = 8 ∧ zln 54 = 2048 := by decide +kernel
theorem za_55 : zkd 55 = 8 ∧ zln 55 = 130 := by decide +kernel
theorem za_56 : zkd 56 = 8 ∧ zln 56 = 32 := by decide +kernel
theorem za_57 : zkd 57 = 8 ∧ zln 57 = 100 := by decide +kernel
theorem za_58 : zkd 58 = 8 ∧ zln 58 = 100 := by decide +kernel
theorem za_59 : zkd 59 = 10 ∧ zln 59 = 100 := by decide +kernel
theorem za_60 : zkd 60 = 8 ∧ zln 60 = 100 := by decide +kernel
theorem za_61 : zkd 61 = 8 ∧ zln 61 = 64 := by decide +kernel
theorem za_62 : zkd 62 = 8 ∧ zln 62 = 64 := by decide +kernel
theorem zlay_0_0 : u_lay RX0 TX0 0 ∈ zgw := zgw_of 140 (by decide +kernel) (by decide +kernel)
theorem zlay_0_1 : u_lay RX0 TX0 1 ∈ zgw := zgw_of 142 (by decide +kernel) (by decide +kernel)
theorem zlay_0_2 : u_lay RX0 TX0 2 ∈ zgw := zgw_of 144 (by decide +kernel) (by decide +kernel)
theorem zlay_0_3 : u_lay RX0 TX0 3 ∈ zgw := zgw_of 146 (by decide +kernel) (by decide +kernel)
theorem zlay_0_4 : u_lay RX0 TX0 4 ∈ zgw := zgw_of 148 (by decide +kernel) (by decide +kernel)
theorem zin0 : ∀ w ∈ u_ws RX0 TX0 5, w ∈ zgw := by
  intro w hw
  obtain ⟨k, hk, rfl⟩ := List.mem_map.mp hw
  have hk := List.mem_range.mp hk
  match k, hk with
  | 0, _ => exact zlay_0_0
  | 1, _ => exact zlay_0_1
  | 2, _ => exact zlay_0_2
  | 3, _ => exact zlay_0_3
  | 4, _ => exact zlay_0_4
  | k + 5, hk => exact absurd hk (by omega)
theorem zRc_0 {o : Nat} (h : zkd o = 0) : zRc o RX0 := ⟨0, (RX0, TX0, 5), h, by decide, rfl, rfl⟩
theorem zlay_1_0 : u_lay RX1 TX1 0 ∈ zgw := zgw_of 164 (by decide +kernel) (by decide +kernel)
theorem zlay_1_1 : u_lay RX1 TX1 1 ∈ zgw := zgw_of 166 (by decide +kernel) (by decide +kernel)
theorem zlay_1_2 : u_lay RX1 TX1 2 ∈ zgw := zgw_of 168 (by decide +kernel) (by decide +kernel)
theorem zin1 : ∀ w ∈ u_ws RX1 TX1 3, w ∈ zgw := by
  intro w hw
  obtain ⟨k, hk, rfl⟩ := List.mem_map.mp hw
  have hk := List.mem_range.mp hk
  match k, hk with
  | 0, _ => exact zlay_1_0
  | 1, _ => exact zlay_1_1
  | 2, _ => exact zlay_1_2
  | k + 3, hk => exact absurd hk (by omega)
theorem zRc_1 {o : Nat} (h : zkd o = 1) : zRc o RX1 := ⟨1, (RX1, TX1, 3), h, by decide, rfl, rfl⟩
theorem zlay_2_0 : u_lay RX2 TX2 0 ∈ zgw := zgw_of 181 (by decide +kernel) (by decide +kernel)
theorem zlay_2_1 : u_lay RX2 TX2 1 ∈ zgw := zgw_of 183 (by decide +kernel) (by decide +kernel)
theorem zin2 : ∀ w ∈ u_ws RX2 TX2 2, w ∈ zgw := by
  intro w hw
  obtain ⟨k, hk, rfl⟩ := List.mem_map.mp hw
  have hk := List.mem_range.mp hk
  match k, hk with
  | 0, _ => exact zlay_2_0
  | 1, _ => exact zlay_2_1
  | k + 2, hk => exact absurd hk (by omega)
theorem zRc_2 {o : Nat} (h : zkd o = 2) : zRc o RX2 := ⟨2, (RX2, TX2, 2), h, by decide, rfl, rfl⟩
theorem zlay_3_0 : u_lay RX3 TX3 0 ∈ zgw := zgw_of 231 (by decide +kernel) (by decide +kernel)
theorem zlay_3_1 : u_lay RX3 TX3 1 ∈ zgw := zgw_of 233 (by decide +kernel) (by decide +kernel)
theorem zlay_3_2 : u_lay RX3 TX3 2 ∈ zgw := zgw_of 235 (by decide +kernel) (by decide +kernel)
theorem zlay_3_3 : u_lay RX3 TX3 3 ∈ zgw := zgw_of 237 (by decide +kernel) (by decide +kernel)
theorem zlay_3_4 : u_lay RX3 TX3 4 ∈ zgw := zgw_of 239 (by decide +kernel) (by decide +kernel)
theorem zlay_3_5 : u_lay RX3 TX3 5 ∈ zgw := zgw_of 241 (by decide +kernel) (by decide +kernel)
theorem zlay_3_6 : u_lay RX3 TX3 6 ∈ zgw := zgw_of 243 (by decide +kernel) (by decide +kernel)
theorem zlay_3_7 : u_lay RX3 TX3 7 ∈ zgw := zgw_of 245 (by decide +kernel) (by decide +kernel)
theorem zlay_3_8 : u_lay RX3 TX3 8 ∈ zgw := zgw_of 247 (by decide +kernel) (by decide +kernel)
theorem zlay_3_9 : u_lay RX3 TX3 9 ∈ zgw := zgw_of 249 (by decide +kernel) (by decide +kernel)
theorem zlay_3_10 : u_lay RX3 TX3 10 ∈ zgw := zgw_of 251 (by decide +kernel) (by decide +kernel)
theorem zlay_3_11 : u_lay RX3 TX3 11 ∈ zgw := zgw_of 253 (by decide +kernel) (by decide +kernel)
theorem zlay_3_12 : u_lay RX3 TX3 12 ∈ zgw := zgw_of 255 (by decide +kernel) (by decide +kernel)
theorem zin3 : ∀ w ∈ u_ws RX3 TX3 13, w ∈ zgw := by
  intro w hw
  obtain ⟨k, hk, rfl⟩ := List.mem_map.mp hw
  have hk := List.mem_range.mp hk
  match k, hk with
  | 0, _ => exact zlay_3_0
  | 1, _ => exact zlay_3_1
  | 2, _ => exact zlay_3_2
  | 3, _ => exact zlay_3_3
  | 4, _ => exact zlay_3_4
  | 5, _ => exact zlay_3_5
  | 6, _ => exact zlay_3_6
  | 7, _ => exact zlay_3_7
  | 8, _ => exact zlay_3_8
  | 9, _ => exact zlay_3_9
  | 10, _ => exact zlay_3_10
  | 11, _ => exact zlay_3_11
  | 12, _ => exact zlay_3_12
  | k + 13, hk => exact absurd hk (by omega)
theorem zRc_3 {o : Nat} (h : zkd o = 3) : zRc o RX3 := ⟨3, (RX3, TX3, 13), h, by decide, rfl, rfl⟩
theorem zlay_4_0 : u_lay RX5 TX5 0 ∈ zgw := zgw_of 110 (by decide +kernel) (by decide +kernel)
theorem zlay_4_1 : u_lay RX5 TX5 1 ∈ zgw := zgw_of 112 (by decide +kernel) (by decide +kernel)
theorem zlay_4_2 : u_lay RX5 TX5 2 ∈ zgw := zgw_of 114 (by decide +kernel) (by decide +kernel)
theorem zlay_4_3 : u_lay RX5 TX5 3 ∈ zgw := zgw_of 116 (by decide +kernel) (by decide +kernel)
theorem zlay_4_4 : u_lay RX5 TX5 4 ∈ zgw := zgw_of 118 (by decide +kernel) (by decide +kernel)
theorem zlay_4_5 : u_lay RX5 TX5 5 ∈ zgw := zgw_of 120 (by decide +kernel) (by decide +kernel)
theorem zin4 : ∀ w ∈ u_ws RX5 TX5 6, w ∈ zgw := by
  intro w hw
  obtain ⟨k, hk, rfl⟩ := List.mem_map.mp hw
  have hk := List.mem_range.mp hk
  match k, hk with
  | 0, _ => exact zlay_4_0
  | 1, _ => exact zlay_4_1
  | 2, _ => exact zlay_4_2
  | 3, _ => exact zlay_4_3
  | 4, _ => exact zlay_4_4
  | 5, _ => exact zlay_4_5
  | k + 6, hk => exact absurd hk (by omega)
theorem zRc_4 {o : Nat} (h : zkd o = 4) : zRc o RX5 := ⟨4, (RX5, TX5, 6), h, by decide, rfl, rfl⟩
theorem zlay_5_0 : u_lay RX6 TX6 0 ∈ zgw := zgw_of 199 (by decide +kernel) (by decide +kernel)
theorem zlay_5_1 : u_lay RX6 TX6 1 ∈ zgw := zgw_of 201 (by decide +kernel) (by decide +kernel)
theorem zlay_5_2 : u_lay RX6 TX6 2 ∈ zgw := zgw_of 203 (by decide +kernel) (by decide +kernel)
theorem zin5 : ∀ w ∈ u_ws RX6 TX6 3, w ∈ zgw := by
  intro w hw
  obtain ⟨k, hk, rfl⟩ := List.mem_map.mp hw
  have hk := List.mem_range.mp hk
  match k, hk with
  | 0, _ => exact zlay_5_0
  | 1, _ => exact zlay_5_1
  | 2, _ => exact zlay_5_2
  | k + 3, hk => exact absurd hk (by omega)
theorem zRc_5 {o : Nat} (h : zkd o = 5) : zRc o RX6 := ⟨5, (RX6, TX6, 3), h, by decide, rfl, rfl⟩
theorem zlay_6_0 : u_lay RX7 TX7 0 ∈ zgw := zgw_of 265 (by decide +kernel) (by decide +kernel)
theorem zlay_6_1 : u_lay RX7 TX7 1 ∈ zgw := zgw_of 267 (by decide +kernel) (by decide +kernel)
theorem zlay_6_2 : u_lay RX7 TX7 2 ∈ zgw := zgw_of 269 (by decide +kernel) (by decide +kernel)
theorem zlay_6_3 : u_lay RX7 TX7 3 ∈ zgw := zgw_of 271 (by decide +kernel) (by decide +kernel)
theorem zlay_6_4 : u_lay RX7 TX7 4 ∈ zgw := zgw_of 273 (by decide +kernel) (by decide +kernel)
theorem zlay_6_5 : u_lay RX7 TX7 5 ∈ zgw := zgw_of 275 (by decide +kernel) (by decide +kernel)
theorem zlay_6_6 : u_lay RX7 TX7 6 ∈ zgw := zgw_of 277 (by decide +kernel) (by decide +kernel)
theorem zin6 : ∀ w ∈ u_ws RX7 TX7 7, w ∈ zgw := by
  intro w hw
  obtain ⟨k, hk, rfl⟩ := List.mem_map.mp hw
  have hk := List.mem_range.mp hk
  match k, hk with
  | 0, _ => exact zlay_6_0
  | 1, _ => exact zlay_6_1
  | 2, _ => exact zlay_6_2
  | 3, _ => exact zlay_6_3
  | 4, _ => exact zlay_6_4
  | 5, _ => exact zlay_6_5
  | 6, _ => exact zlay_6_6
  | k + 7, hk => exact absurd hk (by omega)
theorem zRc_6 {o : Nat} (h : zkd o = 6) : zRc o RX7 := ⟨6, (RX7, TX7, 7), h, by decide, rfl, rfl⟩
theorem zlay_7_0 : u_lay RX8 TX8 0 ∈ zgw := zgw_of 681 (by decide +kernel) (by decide +kernel)
theorem zlay_7_1 : u_lay RX8 TX8 1 ∈ zgw := zgw_of 683 (by decide +kernel) (by decide +kernel)
theorem zlay_7_2 : u_lay RX8 TX8 2 ∈ zgw := zgw_of 685 (by decide +kernel) (by decide +kernel)
theorem zlay_7_3 : u_lay RX8 TX8 3 ∈ zgw := zgw_of 687 (by decide +kernel) (by decide +kernel)
theorem zlay_7_4 : u_lay RX8 TX8 4 ∈ zgw := zgw_of 689 (by decide +kernel) (by decide +kernel)
theorem zlay_7_5 : u_lay RX8 TX8 5 ∈ zgw := zgw_of 691 (by decide +kernel) (by decide +kernel)
theorem zlay_7_6 : u_lay RX8 TX8 6 ∈ zgw := zgw_of 693 (by decide +kernel) (by decide +kernel)
theorem zlay_7_7 : u_lay RX8 TX8 7 ∈ zgw := zgw_of 695 (by decide +kernel) (by decide +kernel)
theorem zlay_7_8 : u_lay RX8 TX8 8 ∈ zgw := zgw_of 697 (by decide +kernel) (by decide +kernel)
theorem zlay_7_9 : u_lay RX8 TX8 9 ∈ zgw := zgw_of 699 (by decide +kernel) (by decide +kernel)
theorem zlay_7_10 : u_lay RX8 TX8 10 ∈ zgw := zgw_of 701 (by decide +kernel) (by decide +kernel)
theorem zlay_7_11 : u_lay RX8 TX8 11 ∈ zgw := zgw_of 703 (by decide +kernel) (by decide +kernel)
theorem zlay_7_12 : u_lay RX8 TX8 12 ∈ zgw := zgw_of 705 (by decide +kernel) (by decide +kernel)
theorem zlay_7_13 : u_lay RX8 TX8 13 ∈ zgw := zgw_of 707 (by decide +kernel) (by decide +kernel)
theorem zlay_7_14 : u_lay RX8 TX8 14 ∈ zgw := zgw_of 709 (by decide +kernel) (by decide +kernel)
theorem zlay_7_15 : u_lay RX8 TX8 15 ∈ zgw := zgw_of 711 (by decide +kernel) (by decide +kernel)
theorem zlay_7_16 : u_lay RX8 TX8 16 ∈ zgw := zgw_of 713 (by decide +kernel) (by decide +kernel)
theorem zlay_7_17 : u_lay RX8 TX8 17 ∈ zgw := zgw_of 715 (by decide +kernel) (by decide +kernel)
theorem zlay_7_18 : u_lay RX8 TX8 18 ∈ zgw := zgw_of 717 (by decide +kernel) (by decide +kernel)
theorem zlay_7_19 : u_lay RX8 TX8 19 ∈ zgw := zgw_of 719 (by decide +kernel) (by decide +kernel)
theorem zlay_7_20 : u_lay RX8 TX8 20 ∈ zgw := zgw_of 721 (by decide +kernel) (by decide +kernel)
theorem zlay_7_21 : u_lay RX8 TX8 21 ∈ zgw := zgw_of 723 (by decide +kernel) (by decide +kernel)
theorem zlay_7_22 : u_lay RX8 TX8 22 ∈ zgw := zgw_of 725 (by decide +kernel) (by decide +kernel)
theorem zlay_7_23 : u_lay RX8 TX8 23 ∈ zgw := zgw_of 727 (by decide +kernel) (by decide +kernel)
theorem zlay_7_24 : u_lay RX8 TX8 24 ∈ zgw := zgw_of 729 (by decide +kernel) (by decide +kernel)
theorem zlay_7_25 : u_lay RX8 TX8 25 ∈ zgw := zgw_of 731 (by decide +kernel) (by decide +kernel)
theorem zlay_7_26 : u_lay RX8 TX8 26 ∈ zgw := zgw_of 733 (by decide +kernel) (by decide +kernel)
theorem zlay_7_27 : u_lay RX8 TX8 27 ∈ zgw := zgw_of 735 (by decide +kernel) (by decide +kernel)
theorem zin7 : ∀ w ∈ u_ws RX8 TX8 28, w ∈ zgw := by
  intro w hw
  obtain ⟨k, hk, rfl⟩ := List.mem_map.mp hw
  have hk := List.mem_range.mp hk
  match k, hk with
  | 0, _ => exact zlay_7_0
  | 1, _ => exact zlay_7_1
  | 2, _ => exact zlay_7_2
  | 3, _ => exact zlay_7_3
  | 4, _ => exact zlay_7_4
  | 5, _ => exact zlay_7_5
  | 6, _ => exact zlay_7_6
  | 7, _ => exact zlay_7_7
  | 8, _ => exact zlay_7_8
  | 9, _ => exact zlay_7_9
  | 10, _ => exact zlay_7_10
  | 11, _ => exact zlay_7_11
  | 12, _ => exact zlay_7_12
  | 13, _ => exact zlay_7_13
  | 14, _ => exact zlay_7_14
  | 15, _ => exact zlay_7_15
  | 16, _ => exact zlay_7_16
  | 17, _ => exact zlay_7_17
  | 18, _ => exact zlay_7_18
  | 19, _ => exact zlay_7_19
  | 20, _ => exact zlay_7_20
  | 21, _ => exact zlay_7_21
  | 22, _ => exact zlay_7_22
  | 23, _ => exact zlay_7_23
  | 24, _ => exact zlay_7_24
  | 25, _ => exact zlay_7_25
  | 26, _ => exact zlay_7_26
  | 27, _ => exact zlay_7_27
  | k + 28, hk => exact absurd hk (by omega)
theorem zRc_7 {o : Nat} (h : zkd o = 7) : zRc o RX8 := ⟨7, (RX8, TX8, 28), h, by decide, rfl, rfl⟩
theorem zkc_X0_45 : Cond.constant RX0 45 (32768) ∈ zgw := zgw_of 343 (by decide +kernel) (by decide +kernel)
theorem zkc_X7_101 : Cond.constant RX7 101 (-2147483647) ∈ zgw := zgw_of 400 (by decide +kernel) (by decide +kernel)
theorem zkc_X7_238 : Cond.constantLong RX7 238 (-9) ∈ zgw := zgw_of 409 (by decide +kernel) (by decide +kernel)
theorem zkc_X7_240 : Cond.constantLong RX7 240 (9) ∈ zgw := zgw_of 410 (by decide +kernel) (by decide +kernel)
theorem zkc_X8_166 : Cond.constant RX8 166 (-2147483647) ∈ zgw := zgw_of 776 (by decide +kernel) (by decide +kernel)
theorem zfl_X0_9 : Cond.fieldLink RX0 9 (TX0 0).1 (TX0 0).2.1 (TX0 0).2.2.1 ∈ zgw := zgw_of 131 (by decide +kernel) (by decide +kernel)
theorem zfl_X0_15 : Cond.fieldLink RX0 15 (TX0 1).1 (TX0 1).2.1 (TX0 1).2.2.1 ∈ zgw := zgw_of 133 (by decide +kernel) (by decide +kernel)
theorem zfl_X0_18 : Cond.fieldLink RX0 18 (TX0 2).1 (TX0 2).2.1 (TX0 2).2.2.1 ∈ zgw := zgw_of 135 (by decide +kernel) (by decide +kernel)
theorem zfl_X0_21 : Cond.fieldLink RX0 21 (TX0 3).1 (TX0 3).2.1 (TX0 3).2.2.1 ∈ zgw := zgw_of 136 (by decide +kernel) (by decide +kernel)
theorem zfl_X0_25 : Cond.fieldLink RX0 25 (TX0 4).1 (TX0 4).2.1 (TX0 4).2.2.1 ∈ zgw := zgw_of 138 (by decide +kernel) (by decide +kernel)
theorem zfl_X1_9 : Cond.fieldLink RX1 9 (TX1 0).1 (TX1 0).2.1 (TX1 0).2.2.1 ∈ zgw := zgw_of 158 (by decide +kernel) (by decide +kernel)
theorem zfl_X1_15 : Cond.fieldLink RX1 15 (TX1 1).1 (TX1 1).2.1 (TX1 1).2.2.1 ∈ zgw := zgw_of 160 (by decide +kernel) (by decide +kernel)
theorem zfl_X1_18 : Cond.fieldLink RX1 18 (TX1 2).1 (TX1 2).2.1 (TX1 2).2.2.1 ∈ zgw := zgw_of 162 (by decide +kernel) (by decide +kernel)
theorem zfl_X2_9 : Cond.fieldLink RX2 9 (TX2 0).1 (TX2 0).2.1 (TX2 0).2.2.1 ∈ zgw := zgw_of 177 (by decide +kernel) (by decide +kernel)
theorem zfl_X3_9 : Cond.fieldLink RX3 9 (TX3 0).1 (TX3 0).2.1 (TX3 0).2.2.1 ∈ zgw := zgw_of 212 (by decide +kernel) (by decide +kernel)
theorem zfl_X3_15 : Cond.fieldLink RX3 15 (TX3 1).1 (TX3 1).2.1 (TX3 1).2.2.1 ∈ zgw := zgw_of 214 (by decide +kernel) (by decide +kernel)
theorem zfl_X3_18 : Cond.fieldLink RX3 18 (TX3 2).1 (TX3 2).2.1 (TX3 2).2.2.1 ∈ zgw := zgw_of 216 (by decide +kernel) (by decide +kernel)
theorem zfl_X3_22 : Cond.fieldLink RX3 22 (TX3 3).1 (TX3 3).2.1 (TX3 3).2.2.1 ∈ zgw := zgw_of 217 (by decide +kernel) (by decide +kernel)
theorem zfl_X3_25 : Cond.fieldLink RX3 25 (TX3 4).1 (TX3 4).2.1 (TX3 4).2.2.1 ∈ zgw := zgw_of 218 (by decide +kernel) (by decide +kernel)
theorem zfl_X3_28 : Cond.fieldLink RX3 28 (TX3 5).1 (TX3 5).2.1 (TX3 5).2.2.1 ∈ zgw := zgw_of 220 (by decide +kernel) (by decide +kernel)
theorem zfl_X3_32 : Cond.fieldLink RX3 32 (TX3 6).1 (TX3 6).2.1 (TX3 6).2.2.1 ∈ zgw := zgw_of 222 (by decide +kernel) (by decide +kernel)
theorem zfl_X3_35 : Cond.fieldLink RX3 35 (TX3 7).1 (TX3 7).2.1 (TX3 7).2.2.1 ∈ zgw := zgw_of 224 (by decide +kernel) (by decide +kernel)
theorem zfl_X3_38 : Cond.fieldLink RX3 38 (TX3 8).1 (TX3 8).2.1 (TX3 8).2.2.1 ∈ zgw := zgw_of 226 (by decide +kernel) (by decide +kernel)
theorem zfl_X3_41 : Cond.fieldLink RX3 41 (TX3 9).1 (TX3 9).2.1 (TX3 9).2.2.1 ∈ zgw := zgw_of 227 (by decide +kernel) (by decide +kernel)
theorem zfl_X3_44 : Cond.fieldLink RX3 44 (TX3 10).1 (TX3 10).2.1 (TX3 10).2.2.1 ∈ zgw := zgw_of 228 (by decide +kernel) (by decide +kernel)
theorem zfl_X3_47 : Cond.fieldLink RX3 47 (TX3 11).1 (TX3 11).2.1 (TX3 11).2.2.1 ∈ zgw := zgw_of 229 (by decide +kernel) (by decide +kernel)
theorem zfl_X3_50 : Cond.fieldLink RX3 50 (TX3 12).1 (TX3 12).2.1 (TX3 12).2.2.1 ∈ zgw := zgw_of 230 (by decide +kernel) (by decide +kernel)
theorem zfl_X4_15 : Cond.fieldLinkNest RX4 15 (TX0 1).1 (TX0 1).2.1 (TX0 1).2.2.1 "CurveMeetings" ∈ znw := znw_of 134 (by decide +kernel) (by decide +kernel)
theorem zfl_X4_19 : Cond.fieldLinkNest RX4 19 (TX0 4).1 (TX0 4).2.1 (TX0 4).2.2.1 "CurveMeetings" ∈ znw := znw_of 139 (by decide +kernel) (by decide +kernel)
theorem zfl_X4_23 : Cond.fieldLinkNest RX4 23 (TX0 3).1 (TX0 3).2.1 (TX0 3).2.2.1 "CurveMeetings" ∈ znw := znw_of 137 (by decide +kernel) (by decide +kernel)
theorem zfl_X5_9 : Cond.fieldLink RX5 9 (TX5 0).1 (TX5 0).2.1 (TX5 0).2.2.1 ∈ zgw := zgw_of 101 (by decide +kernel) (by decide +kernel)
theorem zfl_X5_15 : Cond.fieldLink RX5 15 (TX5 1).1 (TX5 1).2.1 (TX5 1).2.2.1 ∈ zgw := zgw_of 102 (by decide +kernel) (by decide +kernel)
theorem zfl_X5_19 : Cond.fieldLink RX5 19 (TX5 2).1 (TX5 2).2.1 (TX5 2).2.2.1 ∈ zgw := zgw_of 104 (by decide +kernel) (by decide +kernel)
theorem zfl_X5_22 : Cond.fieldLink RX5 22 (TX5 3).1 (TX5 3).2.1 (TX5 3).2.2.1 ∈ zgw := zgw_of 106 (by decide +kernel) (by decide +kernel)
theorem zfl_X5_25 : Cond.fieldLink RX5 25 (TX5 4).1 (TX5 4).2.1 (TX5 4).2.2.1 ∈ zgw := zgw_of 108 (by decide +kernel) (by decide +kernel)
theorem zfl_X5_28 : Cond.fieldLink RX5 28 (TX5 5).1 (TX5 5).2.1 (TX5 5).2.2.1 ∈ zgw := zgw_of 109 (by decide +kernel) (by decide +kernel)
theorem zfl_X6_9 : Cond.fieldLink RX6 9 (TX6 0).1 (TX6 0).2.1 (TX6 0).2.2.1 ∈ zgw := zgw_of 193 (by decide +kernel) (by decide +kernel)
theorem zfl_X6_15 : Cond.fieldLink RX6 15 (TX6 1).1 (TX6 1).2.1 (TX6 1).2.2.1 ∈ zgw := zgw_of 195 (by decide +kernel) (by decide +kernel)
theorem zfl_X6_18 : Cond.fieldLink RX6 18 (TX6 2).1 (TX6 2).2.1 (TX6 2).2.2.1 ∈ zgw := zgw_of 197 (by decide +kernel) (by decide +kernel)
theorem zfl_X7_10 : Cond.fieldLink RX7 10 (TX7 0).1 (TX7 0).2.1 (TX7 0).2.2.1 ∈ zgw := zgw_of 258 (by decide +kernel) (by decide +kernel)
theorem zfl_X7_18 : Cond.fieldLink RX7 18 (TX7 1).1 (TX7 1).2.1 (TX7 1).2.2.1 ∈ zgw := zgw_of 259 (by decide +kernel) (by decide +kernel)
theorem zfl_X7_23 : Cond.fieldLink RX7 23 (TX7 2).1 (TX7 2).2.1 (TX7 2).2.2.1 ∈ zgw := zgw_of 260 (by decide +kernel) (by decide +kernel)
theorem zfl_X7_30 : Cond.fieldLink RX7 30 (TX7 3).1 (TX7 3).2.1 (TX7 3).2.2.1 ∈ zgw := zgw_of 261 (by decide +kernel) (by decide +kernel)
theorem zfl_X7_37 : Cond.fieldLink RX7 37 (TX7 4).1 (TX7 4).2.1 (TX7 4).2.2.1 ∈ zgw := zgw_of 262 (by decide +kernel) (by decide +kernel)
theorem zfl_X7_44 : Cond.fieldLink RX7 44 (TX7 5).1 (TX7 5).2.1 (TX7 5).2.2.1 ∈ zgw := zgw_of 263 (by decide +kernel) (by decide +kernel)
theorem zfl_X7_51 : Cond.fieldLink RX7 51 (TX7 6).1 (TX7 6).2.1 (TX7 6).2.2.1 ∈ zgw := zgw_of 264 (by decide +kernel) (by decide +kernel)
theorem zfl_X7_55 : Cond.fieldLinkNest RX7 55 (TX5 1).1 (TX5 1).2.1 (TX5 1).2.2.1 "CurveMeetings" ∈ znw := znw_of 103 (by decide +kernel) (by decide +kernel)
theorem zfl_X7_69 : Cond.fieldLinkNest RX7 69 (TX5 3).1 (TX5 3).2.1 (TX5 3).2.2.1 "CurveMeetings" ∈ znw := znw_of 107 (by decide +kernel) (by decide +kernel)
theorem zfl_X7_72 : Cond.fieldLinkNest RX7 72 (TX5 2).1 (TX5 2).2.1 (TX5 2).2.2.1 "CurveMeetings" ∈ znw := znw_of 105 (by decide +kernel) (by decide +kernel)
theorem zfl_X7_80 : Cond.fieldLinkNest RX7 80 (TX1 2).1 (TX1 2).2.1 (TX1 2).2.2.1 "CurveMeetings" ∈ znw := znw_of 163 (by decide +kernel) (by decide +kernel)
theorem zfl_X7_81 : Cond.fieldLinkNest RX7 81 (TX6 2).1 (TX6 2).2.1 (TX6 2).2.2.1 "CurveMeetings" ∈ znw := znw_of 198 (by decide +kernel) (by decide +kernel)
theorem zfl_X7_110 : Cond.fieldLinkNest RX7 110 (TX0 0).1 (TX0 0).2.1 (TX0 0).2.2.1 "CurveMeetings" ∈ znw := znw_of 132 (by decide +kernel) (by decide +kernel)
theorem zfl_X7_131 : Cond.fieldLinkNest RX7 131 (TX1 0).1 (TX1 0).2.1 (TX1 0).2.2.1 "CurveMeetings" ∈ znw := znw_of 159 (by decide +kernel) (by decide +kernel)
theorem zfl_X7_134 : Cond.fieldLinkNest RX7 134 (TX1 1).1 (TX1 1).2.1 (TX1 1).2.2.1 "CurveMeetings" ∈ znw := znw_of 161 (by decide +kernel) (by decide +kernel)
theorem zfl_X7_190 : Cond.fieldLinkNest RX7 190 (TX3 6).1 (TX3 6).2.1 (TX3 6).2.2.1 "CurveMeetings" ∈ znw := znw_of 223 (by decide +kernel) (by decide +kernel)
theorem zfl_X7_193 : Cond.fieldLinkNest RX7 193 (TX3 5).1 (TX3 5).2.1 (TX3 5).2.2.1 "CurveMeetings" ∈ znw := znw_of 221 (by decide +kernel) (by decide +kernel)
theorem zfl_X7_194 : Cond.fieldLinkNest RX7 194 (TX3 7).1 (TX3 7).2.1 (TX3 7).2.2.1 "CurveMeetings" ∈ znw := znw_of 225 (by decide +kernel) (by decide +kernel)
theorem zfl_X7_197 : Cond.fieldLinkNest RX7 197 (TX3 0).1 (TX3 0).2.1 (TX3 0).2.2.1 "CurveMeetings" ∈ znw := znw_of 213 (by decide +kernel) (by decide +kernel)
theorem zfl_X7_200 : Cond.fieldLinkNest RX7 200 (TX3 1).1 (TX3 1).2.1 (TX3 1).2.2.1 "CurveMeetings" ∈ znw := znw_of 215 (by decide +kernel) (by decide +kernel)
theorem zfl_X7_203 : Cond.fieldLinkNest RX7 203 (TX3 4).1 (TX3 4).2.1 (TX3 4).2.2.1 "CurveMeetings" ∈ znw := znw_of 219 (by decide +kernel) (by decide +kernel)
theorem zfl_X7_215 : Cond.fieldLinkNest RX7 215 (TX6 0).1 (TX6 0).2.1 (TX6 0).2.2.1 "CurveMeetings" ∈ znw := znw_of 194 (by decide +kernel) (by decide +kernel)
theorem zfl_X7_218 : Cond.fieldLinkNest RX7 218 (TX6 1).1 (TX6 1).2.1 (TX6 1).2.2.1 "CurveMeetings" ∈ znw := znw_of 196 (by decide +kernel) (by decide +kernel)
theorem zfl_X7_224 : Cond.fieldLinkNest RX7 224 (TX2 0).1 (TX2 0).2.1 (TX2 0).2.2.1 "CurveMeetings" ∈ znw := znw_of 178 (by decide +kernel) (by decide +kernel)
theorem zfl_X7_228 : Cond.fieldLinkNest RX7 228 (TX2 1).1 (TX2 1).2.1 (TX2 1).2.2.1 "CurveMeetings" ∈ znw := znw_of 180 (by decide +kernel) (by decide +kernel)
theorem zfl_X8_7 : Cond.fieldLink RX8 7 (TX8 2).1 (TX8 2).2.1 (TX8 2).2.2.1 ∈ zgw := zgw_of 655 (by decide +kernel) (by decide +kernel)
theorem zfl_X8_13 : Cond.fieldLink RX8 13 (TX8 3).1 (TX8 3).2.1 (TX8 3).2.2.1 ∈ zgw := zgw_of 656 (by decide +kernel) (by decide +kernel)
theorem zfl_X8_16 : Cond.fieldLink RX8 16 (TX8 5).1 (TX8 5).2.1 (TX8 5).2.2.1 ∈ zgw := zgw_of 658 (by decide +kernel) (by decide +kernel)
theorem zfl_X8_19 : Cond.fieldLink RX8 19 (TX8 6).1 (TX8 6).2.1 (TX8 6).2.2.1 ∈ zgw := zgw_of 659 (by decide +kernel) (by decide +kernel)
theorem zfl_X8_23 : Cond.fieldLink RX8 23 (TX8 8).1 (TX8 8).2.1 (TX8 8).2.2.1 ∈ zgw := zgw_of 661 (by decide +kernel) (by decide +kernel)
theorem zfl_X8_26 : Cond.fieldLink RX8 26 (TX8 9).1 (TX8 9).2.1 (TX8 9).2.2.1 ∈ zgw := zgw_of 662 (by decide +kernel) (by decide +kernel)
theorem zfl_X8_29 : Cond.fieldLink RX8 29 (TX8 10).1 (TX8 10).2.1 (TX8 10).2.2.1 ∈ zgw := zgw_of 663 (by decide +kernel) (by decide +kernel)
theorem zfl_X8_32 : Cond.fieldLink RX8 32 (TX8 13).1 (TX8 13).2.1 (TX8 13).2.2.1 ∈ zgw := zgw_of 666 (by decide +kernel) (by decide +kernel)
theorem zfl_X8_35 : Cond.fieldLink RX8 35 (TX8 17).1 (TX8 17).2.1 (TX8 17).2.2.1 ∈ zgw := zgw_of 670 (by decide +kernel) (by decide +kernel)
theorem zfl_X8_38 : Cond.fieldLink RX8 38 (TX8 20).1 (TX8 20).2.1 (TX8 20).2.2.1 ∈ zgw := zgw_of 673 (by decide +kernel) (by decide +kernel)
theorem zfl_X8_41 : Cond.fieldLink RX8 41 (TX8 21).1 (TX8 21).2.1 (TX8 21).2.2.1 ∈ zgw := zgw_of 674 (by decide +kernel) (by decide +kernel)
theorem zfl_X8_44 : Cond.fieldLink RX8 44 (TX8 22).1 (TX8 22).2.1 (TX8 22).2.2.1 ∈ zgw := zgw_of 675 (by decide +kernel) (by decide +kernel)
theorem zfl_X8_47 : Cond.fieldLink RX8 47 (TX8 23).1 (TX8 23).2.1 (TX8 23).2.2.1 ∈ zgw := zgw_of 676 (by decide +kernel) (by decide +kernel)
theorem zfl_X8_50 : Cond.fieldLink RX8 50 (TX8 25).1 (TX8 25).2.1 (TX8 25).2.2.1 ∈ zgw := zgw_of 678 (by decide +kernel) (by decide +kernel)
theorem zfl_X8_53 : Cond.fieldLink RX8 53 (TX8 26).1 (TX8 26).2.1 (TX8 26).2.2.1 ∈ zgw := zgw_of 679 (by decide +kernel) (by decide +kernel)
theorem zfl_X8_56 : Cond.fieldLink RX8 56 (TX8 1).1 (TX8 1).2.1 (TX8 1).2.2.1 ∈ zgw := zgw_of 654 (by decide +kernel) (by decide +kernel)
theorem zfl_X8_60 : Cond.fieldLink RX8 60 (TX8 0).1 (TX8 0).2.1 (TX8 0).2.2.1 ∈ zgw := zgw_of 653 (by decide +kernel) (by decide +kernel)
theorem zfl_X8_67 : Cond.fieldLink RX8 67 (TX8 12).1 (TX8 12).2.1 (TX8 12).2.2.1 ∈ zgw := zgw_of 665 (by decide +kernel) (by decide +kernel)
theorem zfl_X8_70 : Cond.fieldLink RX8 70 (TX8 14).1 (TX8 14).2.1 (TX8 14).2.2.1 ∈ zgw := zgw_of 667 (by decide +kernel) (by decide +kernel)
theorem zfl_X8_73 : Cond.fieldLink RX8 73 (TX8 15).1 (TX8 15).2.1 (TX8 15).2.2.1 ∈ zgw := zgw_of 668 (by decide +kernel) (by decide +kernel)
theorem zfl_X8_76 : Cond.fieldLink RX8 76 (TX8 16).1 (TX8 16).2.1 (TX8 16).2.2.1 ∈ zgw := zgw_of 669 (by decide +kernel) (by decide +kernel)
theorem zfl_X8_83 : Cond.fieldLink RX8 83 (TX8 18).1 (TX8 18).2.1 (TX8 18).2.2.1 ∈ zgw := zgw_of 671 (by decide +kernel) (by decide +kernel)
theorem zfl_X8_93 : Cond.fieldLink RX8 93 (TX8 11).1 (TX8 11).2.1 (TX8 11).2.2.1 ∈ zgw := zgw_of 664 (by decide +kernel) (by decide +kernel)
theorem zfl_X8_97 : Cond.fieldLink RX8 97 (TX8 4).1 (TX8 4).2.1 (TX8 4).2.2.1 ∈ zgw := zgw_of 657 (by decide +kernel) (by decide +kernel)
theorem zfl_X8_100 : Cond.fieldLink RX8 100 (TX8 7).1 (TX8 7).2.1 (TX8 7).2.2.1 ∈ zgw := zgw_of 660 (by decide +kernel) (by decide +kernel)
theorem zfl_X8_195 : Cond.fieldLink RX8 195 (TX8 27).1 (TX8 27).2.1 (TX8 27).2.2.1 ∈ zgw := zgw_of 680 (by decide +kernel) (by decide +kernel)
theorem zfl_X8_202 : Cond.fieldLink RX8 202 (TX8 19).1 (TX8 19).2.1 (TX8 19).2.2.1 ∈ zgw := zgw_of 672 (by decide +kernel) (by decide +kernel)
theorem zfl_X8_208 : Cond.fieldLink RX8 208 (TX8 24).1 (TX8 24).2.1 (TX8 24).2.2.1 ∈ zgw := zgw_of 677 (by decide +kernel) (by decide +kernel)
theorem znf_X0_80 : Cond.fieldLinkNest RX0 80 "CurveMeetings" "AREA_WEIGHTS" "[I" "CurveMeetings" ∈ znw := znw_of 531 (by decide +kernel) (by decide +kernel)
theorem znl_X0_37 : Cond.methodLinkNest RX0 37 yX7_isCoordinate "CurveMeetings" ∈ znw := znw_of 433 (by decide +kernel) (by decide +kernel)
theorem znl_X0_69 : Cond.methodLinkNest RX0 69 yX4_side "CurveMeetings" ∈ znw := znw_of 366 (by decide +kernel) (by decide +kernel)
theorem znl_X3_68 : Cond.methodLinkNest RX3 68 yX4_whyApart "CurveMeetings" ∈ znw := znw_of 551 (by decide +kernel) (by decide +kernel)
theorem znl_X3_74 : Cond.methodLinkNest RX3 74 yX4_wayOfTurn "CurveMeetings" ∈ znw := znw_of 552 (by decide +kernel) (by decide +kernel)
theorem znl_X3_77 : Cond.methodLinkNest RX3 77 yX4_endsCross "CurveMeetings" ∈ znw := znw_of 553 (by decide +kernel) (by decide +kernel)
theorem znl_X4_9 : Cond.methodLinkNest RX4 9 yX0_step "CurveMeetings" ∈ znw := znw_of 493 (by decide +kernel) (by decide +kernel)
theorem znl_X4_36 : Cond.methodLinkNest RX4 36 yX0_greatest "CurveMeetings" ∈ znw := znw_of 468 (by decide +kernel) (by decide +kernel)
theorem znl_X4_40 : Cond.methodLinkNest RX4 40 yX0_least "CurveMeetings" ∈ znw := znw_of 472 (by decide +kernel) (by decide +kernel)
theorem znl_X7_58 : Cond.methodLinkNest RX7 58 yX5_adds "CurveMeetings" ∈ znw := znw_of 284 (by decide +kernel) (by decide +kernel)
theorem znl_X7_62 : Cond.methodLinkNest RX7 62 yX5_empties "CurveMeetings" ∈ znw := znw_of 292 (by decide +kernel) (by decide +kernel)
theorem znl_X7_66 : Cond.methodLinkNest RX7 66 yX5_findFault "CurveMeetings" ∈ znw := znw_of 300 (by decide +kernel) (by decide +kernel)
theorem znl_X7_76 : Cond.methodLinkNest RX7 76 yX0_takes "CurveMeetings" ∈ znw := znw_of 332 (by decide +kernel) (by decide +kernel)
theorem znl_X7_82 : Cond.methodLinkNest RX7 82 yX2_drop "CurveMeetings" ∈ znw := znw_of 375 (by decide +kernel) (by decide +kernel)
theorem znl_X7_85 : Cond.methodLinkNest RX7 85 yX3_outdate "CurveMeetings" ∈ znw := znw_of 379 (by decide +kernel) (by decide +kernel)
theorem znl_X7_102 : Cond.methodLinkNest RX7 102 yX0_at "CurveMeetings" ∈ znw := znw_of 401 (by decide +kernel) (by decide +kernel)
theorem znl_X7_117 : Cond.methodLinkNest RX7 117 yX0_halveAll "CurveMeetings" ∈ znw := znw_of 424 (by decide +kernel) (by decide +kernel)
theorem znl_X7_120 : Cond.methodLinkNest RX7 120 yX0_canShift "CurveMeetings" ∈ znw := znw_of 429 (by decide +kernel) (by decide +kernel)
theorem znl_X7_124 : Cond.methodLinkNest RX7 124 yX0_shiftAll "CurveMeetings" ∈ znw := znw_of 434 (by decide +kernel) (by decide +kernel)
theorem znl_X7_128 : Cond.methodLinkNest RX7 128 yX0_turnRound "CurveMeetings" ∈ znw := znw_of 442 (by decide +kernel) (by decide +kernel)
theorem znl_X7_138 : Cond.methodLinkNest RX7 138 yX4_whyApart "CurveMeetings" ∈ znw := znw_of 462 (by decide +kernel) (by decide +kernel)
theorem znl_X7_144 : Cond.methodLinkNest RX7 144 yX4_wayOfTurn "CurveMeetings" ∈ znw := znw_of 487 (by decide +kernel) (by decide +kernel)
theorem znl_X7_147 : Cond.methodLinkNest RX7 147 yX4_endsCross "CurveMeetings" ∈ znw := znw_of 500 (by decide +kernel) (by decide +kernel)
theorem znl_X7_151 : Cond.methodLinkNest RX7 151 yX4_crossOfSteps "CurveMeetings" ∈ znw := znw_of 510 (by decide +kernel) (by decide +kernel)
theorem znl_X7_168 : Cond.methodLinkNest RX7 168 yX0_step "CurveMeetings" ∈ znw := znw_of 520 (by decide +kernel) (by decide +kernel)
theorem znl_X7_176 : Cond.methodLinkNest RX7 176 yX0_areaParts "CurveMeetings" ∈ znw := znw_of 527 (by decide +kernel) (by decide +kernel)
theorem znl_X7_182 : Cond.methodLinkNest RX7 182 yX3_find "CurveMeetings" ∈ znw := znw_of 540 (by decide +kernel) (by decide +kernel)
theorem znl_X7_186 : Cond.methodLinkNest RX7 186 yX3_isOver "CurveMeetings" ∈ znw := znw_of 590 (by decide +kernel) (by decide +kernel)
theorem znl_X7_206 : Cond.methodLinkNest RX7 206 yX3_tellSpot "CurveMeetings" ∈ znw := znw_of 599 (by decide +kernel) (by decide +kernel)
theorem znl_X7_209 : Cond.methodLinkNest RX7 209 yX3_countSpots "CurveMeetings" ∈ znw := znw_of 607 (by decide +kernel) (by decide +kernel)
theorem znl_X7_213 : Cond.methodLinkNest RX7 213 yX6_adds "CurveMeetings" ∈ znw := znw_of 616 (by decide +kernel) (by decide +kernel)
theorem znl_X7_229 : Cond.methodLinkNest RX7 229 yX2_place "CurveMeetings" ∈ znw := znw_of 635 (by decide +kernel) (by decide +kernel)
theorem znl_X7_242 : Cond.methodLinkNest RX7 242 yX1_adds "CurveMeetings" ∈ znw := znw_of 415 (by decide +kernel) (by decide +kernel)
theorem zl_X0_34 : Cond.methodLink RX0 34 yX0_halveAll ∈ zgw := zgw_of 339 (by decide +kernel) (by decide +kernel)
theorem zl_X0_41 : Cond.methodLink RX0 41 yX0_swap ∈ zgw := zgw_of 446 (by decide +kernel) (by decide +kernel)
theorem zl_X0_46 : Cond.methodLink RX0 46 yX0_halve ∈ zgw := zgw_of 344 (by decide +kernel) (by decide +kernel)
theorem zl_X0_49 : Cond.methodLink RX0 49 yX0_measureBox ∈ zgw := zgw_of 352 (by decide +kernel) (by decide +kernel)
theorem zl_X0_52 : Cond.methodLink RX0 52 yX0_measureBand ∈ zgw := zgw_of 362 (by decide +kernel) (by decide +kernel)
theorem zl_X0_56 : Cond.methodLink RX0 56 yX0_at ∈ zgw := zgw_of 348 (by decide +kernel) (by decide +kernel)
theorem zl_X1_22 : Cond.methodLink RX1 22 yX1_loseOldest ∈ zgw := zgw_of 419 (by decide +kernel) (by decide +kernel)
theorem zl_X3_53 : Cond.methodLink RX3 53 yX3_find ∈ zgw := zgw_of 611 (by decide +kernel) (by decide +kernel)
theorem zl_X3_57 : Cond.methodLink RX3 57 yX3_isOver ∈ zgw := zgw_of 547 (by decide +kernel) (by decide +kernel)
theorem zl_X3_61 : Cond.methodLink RX3 61 yX3_search ∈ zgw := zgw_of 544 (by decide +kernel) (by decide +kernel)
theorem zl_X3_65 : Cond.methodLink RX3 65 yX3_gatherSpots ∈ zgw := zgw_of 558 (by decide +kernel) (by decide +kernel)
theorem zl_X3_81 : Cond.methodLink RX3 81 yX3_adds ∈ zgw := zgw_of 554 (by decide +kernel) (by decide +kernel)
theorem zl_X3_85 : Cond.methodLink RX3 85 yX3_gather ∈ zgw := zgw_of 562 (by decide +kernel) (by decide +kernel)
theorem zl_X3_89 : Cond.methodLink RX3 89 yX3_tell ∈ zgw := zgw_of 573 (by decide +kernel) (by decide +kernel)
theorem zl_X3_93 : Cond.methodLink RX3 93 yX3_hangTogether ∈ zgw := zgw_of 566 (by decide +kernel) (by decide +kernel)
theorem zl_X3_102 : Cond.methodLink RX3 102 yX3_kind ∈ zgw := zgw_of 577 (by decide +kernel) (by decide +kernel)
theorem zl_X3_105 : Cond.methodLink RX3 105 yX3_tellStretch ∈ zgw := zgw_of 581 (by decide +kernel) (by decide +kernel)
theorem zl_X3_109 : Cond.methodLink RX3 109 yX3_width ∈ zgw := zgw_of 585 (by decide +kernel) (by decide +kernel)
theorem zl_X4_26 : Cond.methodLink RX4 26 yX4_boxesApart ∈ zgw := zgw_of 465 (by decide +kernel) (by decide +kernel)
theorem zl_X4_32 : Cond.methodLink RX4 32 yX4_clears ∈ zgw := zgw_of 476 (by decide +kernel) (by decide +kernel)
theorem zl_X4_43 : Cond.methodLink RX4 43 yX4_side ∈ zgw := zgw_of 479 (by decide +kernel) (by decide +kernel)
theorem zl_X4_47 : Cond.methodLink RX4 47 yX4_placeByBand ∈ zgw := zgw_of 480 (by decide +kernel) (by decide +kernel)
theorem zl_X4_51 : Cond.methodLink RX4 51 yX4_crossOfSteps ∈ zgw := zgw_of 490 (by decide +kernel) (by decide +kernel)
theorem zl_X4_55 : Cond.methodLink RX4 55 yX4_sign ∈ zgw := zgw_of 497 (by decide +kernel) (by decide +kernel)
theorem zl_X4_59 : Cond.methodLink RX4 59 yX4_endsBeside ∈ zgw := zgw_of 503 (by decide +kernel) (by decide +kernel)
theorem zl_X5_32 : Cond.methodLink RX5 32 yX5_takesToken ∈ zgw := zgw_of 304 (by decide +kernel) (by decide +kernel)
theorem zl_X5_36 : Cond.methodLink RX5 36 yX5_isFigure ∈ zgw := zgw_of 308 (by decide +kernel) (by decide +kernel)
theorem zl_X5_39 : Cond.methodLink RX5 39 yX5_takesNumber ∈ zgw := zgw_of 312 (by decide +kernel) (by decide +kernel)
theorem zl_X5_42 : Cond.methodLink RX5 42 yX5_opensItem ∈ zgw := zgw_of 320 (by decide +kernel) (by decide +kernel)
theorem zl_X5_46 : Cond.methodLink RX5 46 yX5_takesMinus ∈ zgw := zgw_of 324 (by decide +kernel) (by decide +kernel)
theorem zl_X5_49 : Cond.methodLink RX5 49 yX5_endsItem ∈ zgw := zgw_of 328 (by decide +kernel) (by decide +kernel)
theorem zl_X5_52 : Cond.methodLink RX5 52 yX5_wantsNumber ∈ zgw := zgw_of 316 (by decide +kernel) (by decide +kernel)
theorem zl_X7_88 : Cond.methodLink RX7 88 yX7_isArc ∈ zgw := zgw_of 387 (by decide +kernel) (by decide +kernel)
theorem zl_X7_92 : Cond.methodLink RX7 92 yX7_isNode ∈ zgw := zgw_of 391 (by decide +kernel) (by decide +kernel)
theorem zl_X7_95 : Cond.methodLink RX7 95 yX7_isPoint ∈ zgw := zgw_of 394 (by decide +kernel) (by decide +kernel)
theorem zl_X7_98 : Cond.methodLink RX7 98 yX7_isAxis ∈ zgw := zgw_of 397 (by decide +kernel) (by decide +kernel)
theorem zl_X7_106 : Cond.methodLink RX7 106 yX7_isCoordinate ∈ zgw := zgw_of 406 (by decide +kernel) (by decide +kernel)
theorem zl_X7_113 : Cond.methodLink RX7 113 yX7_startChange ∈ zgw := zgw_of 411 (by decide +kernel) (by decide +kernel)
theorem zl_X7_135 : Cond.methodLink RX7 135 yX7_areTwoArcs ∈ zgw := zgw_of 458 (by decide +kernel) (by decide +kernel)
theorem zl_X7_164 : Cond.methodLink RX7 164 yX7_whichSigns ∈ zgw := zgw_of 513 (by decide +kernel) (by decide +kernel)
theorem zl_X7_179 : Cond.methodLink RX7 179 yX7_commonDivisor ∈ zgw := zgw_of 533 (by decide +kernel) (by decide +kernel)
theorem zl_X7_221 : Cond.methodLink RX7 221 yX7_isImage ∈ zgw := zgw_of 632 (by decide +kernel) (by decide +kernel)
theorem zl_X8_63 : Cond.methodLink RX8 63 yX8_in ∈ zgw := zgw_of 742 (by decide +kernel) (by decide +kernel)
theorem zl_X8_79 : Cond.methodLink RX8 79 yX8_isFigure ∈ zgw := zgw_of 757 (by decide +kernel) (by decide +kernel)
theorem zl_X8_86 : Cond.methodLink RX8 86 yX8_takes ∈ zgw := zgw_of 753 (by decide +kernel) (by decide +kernel)
theorem zl_X8_89 : Cond.methodLink RX8 89 yX8_readsArc ∈ zgw := zgw_of 761 (by decide +kernel) (by decide +kernel)
theorem zl_X8_103 : Cond.methodLink RX8 103 yX8_depth ∈ zgw := zgw_of 784 (by decide +kernel) (by decide +kernel)
theorem zl_X8_107 : Cond.methodLink RX8 107 yX8_from ∈ zgw := zgw_of 781 (by decide +kernel) (by decide +kernel)
theorem zl_X8_110 : Cond.methodLink RX8 110 yX8_to ∈ zgw := zgw_of 787 (by decide +kernel) (by decide +kernel)
theorem zl_X8_113 : Cond.methodLink RX8 113 yX8_placeOf ∈ zgw := zgw_of 790 (by decide +kernel) (by decide +kernel)
theorem zl_X8_117 : Cond.methodLink RX8 117 yX8_at ∈ zgw := zgw_of 794 (by decide +kernel) (by decide +kernel)
theorem zl_X8_121 : Cond.methodLink RX8 121 yX8_cross ∈ zgw := zgw_of 834 (by decide +kernel) (by decide +kernel)
theorem zl_X8_125 : Cond.methodLink RX8 125 yX8_side ∈ zgw := zgw_of 830 (by decide +kernel) (by decide +kernel)
theorem zl_X8_129 : Cond.methodLink RX8 129 yX8_bandLow ∈ zgw := zgw_of 826 (by decide +kernel) (by decide +kernel)
theorem zl_X8_133 : Cond.methodLink RX8 133 yX8_bandHigh ∈ zgw := zgw_of 837 (by decide +kernel) (by decide +kernel)
theorem zl_X8_136 : Cond.methodLink RX8 136 yX8_beyond ∈ zgw := zgw_of 822 (by decide +kernel) (by decide +kernel)
theorem zl_X8_140 : Cond.methodLink RX8 140 yX8_extreme ∈ zgw := zgw_of 814 (by decide +kernel) (by decide +kernel)
theorem zl_X8_144 : Cond.methodLink RX8 144 yX8_areBoxesApart ∈ zgw := zgw_of 810 (by decide +kernel) (by decide +kernel)
theorem zl_X8_148 : Cond.methodLink RX8 148 yX8_clears ∈ zgw := zgw_of 818 (by decide +kernel) (by decide +kernel)
theorem zl_X8_151 : Cond.methodLink RX8 151 yX8_stepOf ∈ zgw := zgw_of 849 (by decide +kernel) (by decide +kernel)
theorem zl_X8_154 : Cond.methodLink RX8 154 yX8_turnOf ∈ zgw := zgw_of 845 (by decide +kernel) (by decide +kernel)
theorem zl_X8_157 : Cond.methodLink RX8 157 yX8_isAcross ∈ zgw := zgw_of 857 (by decide +kernel) (by decide +kernel)
theorem zl_X8_160 : Cond.methodLink RX8 160 yX8_isArc ∈ zgw := zgw_of 769 (by decide +kernel) (by decide +kernel)
theorem zl_X8_163 : Cond.methodLink RX8 163 yX8_isNode ∈ zgw := zgw_of 773 (by decide +kernel) (by decide +kernel)
theorem zl_X8_167 : Cond.methodLink RX8 167 yX8_lays ∈ zgw := zgw_of 777 (by decide +kernel) (by decide +kernel)
theorem zl_X8_170 : Cond.methodLink RX8 170 yX8_arePair ∈ zgw := zgw_of 802 (by decide +kernel) (by decide +kernel)
theorem zl_X8_174 : Cond.methodLink RX8 174 yX8_apartOf ∈ zgw := zgw_of 806 (by decide +kernel) (by decide +kernel)
theorem zl_X8_177 : Cond.methodLink RX8 177 yX8_areCrossed ∈ zgw := zgw_of 853 (by decide +kernel) (by decide +kernel)
theorem zl_X8_180 : Cond.methodLink RX8 180 yX8_bend ∈ zgw := zgw_of 865 (by decide +kernel) (by decide +kernel)
theorem zl_X8_184 : Cond.methodLink RX8 184 yX8_signOf ∈ zgw := zgw_of 869 (by decide +kernel) (by decide +kernel)
theorem zl_X8_188 : Cond.methodLink RX8 188 yX8_crossOf ∈ zgw := zgw_of 884 (by decide +kernel) (by decide +kernel)
theorem zl_X8_192 : Cond.methodLink RX8 192 yX8_areaOf ∈ zgw := zgw_of 880 (by decide +kernel) (by decide +kernel)
theorem zl_X8_198 : Cond.methodLink RX8 198 yX8_waits ∈ zgw := zgw_of 896 (by decide +kernel) (by decide +kernel)
theorem zl_X8_205 : Cond.methodLink RX8 205 yX8_areNear ∈ zgw := zgw_of 908 (by decide +kernel) (by decide +kernel)
theorem zl_X8_211 : Cond.methodLink RX8 211 yX8_isTooMany ∈ zgw := zgw_of 900 (by decide +kernel) (by decide +kernel)
theorem zl_X8_214 : Cond.methodLink RX8 214 yX8_laysSpots ∈ zgw := zgw_of 904 (by decide +kernel) (by decide +kernel)
theorem zl_X8_217 : Cond.methodLink RX8 217 yX8_meet ∈ zgw := zgw_of 892 (by decide +kernel) (by decide +kernel)
theorem zl_X8_220 : Cond.methodLink RX8 220 yX8_kindOf ∈ zgw := zgw_of 920 (by decide +kernel) (by decide +kernel)
theorem zl_X8_223 : Cond.methodLink RX8 223 yX8_ofSpot ∈ zgw := zgw_of 924 (by decide +kernel) (by decide +kernel)
theorem zl_X8_227 : Cond.methodLink RX8 227 yX8_spotsOf ∈ zgw := zgw_of 932 (by decide +kernel) (by decide +kernel)
theorem zl_X8_230 : Cond.methodLink RX8 230 yX8_notes ∈ zgw := zgw_of 940 (by decide +kernel) (by decide +kernel)
theorem zw2_copy : Cond.native arraycopyName ∈ zgw ∧ Cond.static arraycopyName ∈ zgw ∧ Cond.initialized "java/lang/System" ∈ zgw := ⟨zgw_of 338 (by decide +kernel) (by decide +kernel), zgw_of 337 (by decide +kernel) (by decide +kernel), zgw_of 84 (by decide +kernel) (by decide +kernel)⟩
theorem zw2_mabs : Cond.static Lib.Math.abs.name ∈ zgw ∧ Cond.initialized "java/lang/Math" ∈ zgw ∧ Cond.code Lib.Math.abs.name Lib.Math.abs.code 1 (some .int) ∈ zgw := ⟨zgw_of 571 (by decide +kernel) (by decide +kernel), zgw_of 85 (by decide +kernel) (by decide +kernel), zgw_of 572 (by decide +kernel) (by decide +kernel)⟩
theorem zw2_mmax : Cond.static Lib.Math.max.name ∈ zgw ∧ Cond.initialized "java/lang/Math" ∈ zgw ∧ Cond.code Lib.Math.max.name Lib.Math.max.code 2 (some .int) ∈ zgw := ⟨zgw_of 360 (by decide +kernel) (by decide +kernel), zgw_of 85 (by decide +kernel) (by decide +kernel), zgw_of 361 (by decide +kernel) (by decide +kernel)⟩
theorem zw2_mmaxL : Cond.static Lib.MathLoose.max_long.x ∈ zgw ∧ Cond.initialized "java/lang/Math" ∈ zgw ∧ Cond.code Lib.MathLoose.max_long.x Lib.MathLoose.max_long.code 4 (some .long) ∈ zgw := ⟨zgw_of 373 (by decide +kernel) (by decide +kernel), zgw_of 85 (by decide +kernel) (by decide +kernel), zgw_of 374 (by decide +kernel) (by decide +kernel)⟩
theorem zw2_mmin : Cond.static Lib.Math.min.name ∈ zgw ∧ Cond.initialized "java/lang/Math" ∈ zgw ∧ Cond.code Lib.Math.min.name Lib.Math.min.code 2 (some .int) ∈ zgw := ⟨zgw_of 357 (by decide +kernel) (by decide +kernel), zgw_of 85 (by decide +kernel) (by decide +kernel), zgw_of 358 (by decide +kernel) (by decide +kernel)⟩
theorem zw2_mminL : Cond.static Lib.MathLoose.min_long.x ∈ zgw ∧ Cond.initialized "java/lang/Math" ∈ zgw ∧ Cond.code Lib.MathLoose.min_long.x Lib.MathLoose.min_long.code 4 (some .long) ∈ zgw := ⟨zgw_of 370 (by decide +kernel) (by decide +kernel), zgw_of 85 (by decide +kernel) (by decide +kernel), zgw_of 371 (by decide +kernel) (by decide +kernel)⟩
theorem zlm_X0_28 : Cond.methodLink RX0 28 arraycopyName ∈ zgw := zgw_of 336 (by decide +kernel) (by decide +kernel)
theorem zlm_X0_60 : Cond.methodLink RX0 60 Lib.Math.min.name ∈ zgw := zgw_of 356 (by decide +kernel) (by decide +kernel)
theorem zlm_X0_66 : Cond.methodLink RX0 66 Lib.Math.max.name ∈ zgw := zgw_of 359 (by decide +kernel) (by decide +kernel)
theorem zlm_X0_75 : Cond.methodLink RX0 75 Lib.MathLoose.min_long.x ∈ zgw := zgw_of 369 (by decide +kernel) (by decide +kernel)
theorem zlm_X0_78 : Cond.methodLink RX0 78 Lib.MathLoose.max_long.x ∈ zgw := zgw_of 372 (by decide +kernel) (by decide +kernel)
theorem zlm_X1_25 : Cond.methodLink RX1 25 arraycopyName ∈ zgw := zgw_of 423 (by decide +kernel) (by decide +kernel)
theorem zlm_X3_97 : Cond.methodLink RX3 97 Lib.Math.abs.name ∈ zgw := zgw_of 570 (by decide +kernel) (by decide +kernel)
theorem zlm_X3_112 : Cond.methodLink RX3 112 Lib.Math.min.name ∈ zgw := zgw_of 588 (by decide +kernel) (by decide +kernel)
theorem zlm_X3_116 : Cond.methodLink RX3 116 Lib.Math.max.name ∈ zgw := zgw_of 589 (by decide +kernel) (by decide +kernel)
theorem zlm_X7_155 : Cond.methodLink RX7 155 Lib.MathLoose.min_long.x ∈ zgw := zgw_of 511 (by decide +kernel) (by decide +kernel)
theorem zlm_X7_161 : Cond.methodLink RX7 161 Lib.MathLoose.max_long.x ∈ zgw := zgw_of 512 (by decide +kernel) (by decide +kernel)
theorem zlm_X7_171 : Cond.methodLink RX7 171 Lib.Math.min.name ∈ zgw := zgw_of 521 (by decide +kernel) (by decide +kernel)
theorem zlm_X7_174 : Cond.methodLink RX7 174 Lib.Math.max.name ∈ zgw := zgw_of 522 (by decide +kernel) (by decide +kernel)
theorem zlm_X7_232 : Cond.methodLink RX7 232 arraycopyName ∈ zgw := zgw_of 638 (by decide +kernel) (by decide +kernel)
theorem zk_X0_areaParts : zkV yX0_areaParts cX0_areaParts 5 (some .int) 0 := ⟨zgw_of 530 (by decide +kernel) (by decide +kernel), zgw_of 529 (by decide +kernel) (by decide +kernel), zgw_of 30 (by decide +kernel) (by decide +kernel), zgw_of 78 (by decide +kernel) (by decide +kernel), by decide +kernel, by decide +kernel, by decide +kernel⟩
theorem zk_X0_at : zkV yX0_at cX0_at 4 (some .int) 3 := ⟨zgw_of 351 (by decide +kernel) (by decide +kernel), zgw_of 350 (by decide +kernel) (by decide +kernel), zgw_of 13 (by decide +kernel) (by decide +kernel), zgw_of 78 (by decide +kernel) (by decide +kernel), by decide +kernel, by decide +kernel, by decide +kernel⟩
theorem zk_X0_canShift : zkV yX0_canShift cX0_canShift 4 (some .boolean) 2 := ⟨zgw_of 432 (by decide +kernel) (by decide +kernel), zgw_of 431 (by decide +kernel) (by decide +kernel), zgw_of 22 (by decide +kernel) (by decide +kernel), zgw_of 78 (by decide +kernel) (by decide +kernel), by decide +kernel, by decide +kernel, by decide +kernel⟩
theorem zk_X0_greatest : zkV yX0_greatest cX0_greatest 3 (some .int) 2 := ⟨zgw_of 471 (by decide +kernel) (by decide +kernel), zgw_of 470 (by decide +kernel) (by decide +kernel), zgw_of 27 (by decide +kernel) (by decide +kernel), zgw_of 78 (by decide +kernel) (by decide +kernel), by decide +kernel, by decide +kernel, by decide +kernel⟩
theorem zk_X0_halve : zkV yX0_halve cX0_halve 15 none 2 := ⟨zgw_of 347 (by decide +kernel) (by decide +kernel), zgw_of 346 (by decide +kernel) (by decide +kernel), zgw_of 12 (by decide +kernel) (by decide +kernel), zgw_of 78 (by decide +kernel) (by decide +kernel), by decide +kernel, by decide +kernel, by decide +kernel⟩
theorem zk_X0_halveAll : zkV yX0_halveAll cX0_halveAll 2 none 0 := ⟨zgw_of 342 (by decide +kernel) (by decide +kernel), zgw_of 341 (by decide +kernel) (by decide +kernel), zgw_of 11 (by decide +kernel) (by decide +kernel), zgw_of 78 (by decide +kernel) (by decide +kernel), by decide +kernel, by decide +kernel, by decide +kernel⟩
theorem zk_X0_least : zkV yX0_least cX0_least 3 (some .int) 2 := ⟨zgw_of 475 (by decide +kernel) (by decide +kernel), zgw_of 474 (by decide +kernel) (by decide +kernel), zgw_of 28 (by decide +kernel) (by decide +kernel), zgw_of 78 (by decide +kernel) (by decide +kernel), by decide +kernel, by decide +kernel, by decide +kernel⟩
theorem zk_X0_measureBand : zkV yX0_measureBand cX0_measureBand 5 none 1 := ⟨zgw_of 365 (by decide +kernel) (by decide +kernel), zgw_of 364 (by decide +kernel) (by decide +kernel), zgw_of 15 (by decide +kernel) (by decide +kernel), zgw_of 78 (by decide +kernel) (by decide +kernel), by decide +kernel, by decide +kernel, by decide +kernel⟩
theorem zk_X0_measureBox : zkV yX0_measureBox cX0_measureBox 6 none 2 := ⟨zgw_of 355 (by decide +kernel) (by decide +kernel), zgw_of 354 (by decide +kernel) (by decide +kernel), zgw_of 14 (by decide +kernel) (by decide +kernel), zgw_of 78 (by decide +kernel) (by decide +kernel), by decide +kernel, by decide +kernel, by decide +kernel⟩
theorem zk_X0_shiftAll : zkV yX0_shiftAll cX0_shiftAll 4 none 2 := ⟨zgw_of 437 (by decide +kernel) (by decide +kernel), zgw_of 436 (by decide +kernel) (by decide +kernel), zgw_of 23 (by decide +kernel) (by decide +kernel), zgw_of 78 (by decide +kernel) (by decide +kernel), by decide +kernel, by decide +kernel, by decide +kernel⟩
theorem zk_X0_step : zkV yX0_step cX0_step 5 (some .int) 3 := ⟨zgw_of 496 (by decide +kernel) (by decide +kernel), zgw_of 495 (by decide +kernel) (by decide +kernel), zgw_of 29 (by decide +kernel) (by decide +kernel), zgw_of 78 (by decide +kernel) (by decide +kernel), by decide +kernel, by decide +kernel, by decide +kernel⟩
theorem zk_X0_swap : zkV yX0_swap cX0_swap 4 none 2 := ⟨zgw_of 449 (by decide +kernel) (by decide +kernel), zgw_of 448 (by decide +kernel) (by decide +kernel), zgw_of 25 (by decide +kernel) (by decide +kernel), zgw_of 78 (by decide +kernel) (by decide +kernel), by decide +kernel, by decide +kernel, by decide +kernel⟩
theorem zk_X0_takes : zkV yX0_takes cX0_takes 3 none 2 := ⟨zgw_of 335 (by decide +kernel) (by decide +kernel), zgw_of 334 (by decide +kernel) (by decide +kernel), zgw_of 10 (by decide +kernel) (by decide +kernel), zgw_of 78 (by decide +kernel) (by decide +kernel), by decide +kernel, by decide +kernel, by decide +kernel⟩
theorem zk_X0_turnRound : zkV yX0_turnRound cX0_turnRound 2 none 0 := ⟨zgw_of 445 (by decide +kernel) (by decide +kernel), zgw_of 444 (by decide +kernel) (by decide +kernel), zgw_of 24 (by decide +kernel) (by decide +kernel), zgw_of 78 (by decide +kernel) (by decide +kernel), by decide +kernel, by decide +kernel, by decide +kernel⟩
theorem zk_X1_adds : zkV yX1_adds cX1_adds 3 none 2 := ⟨zgw_of 418 (by decide +kernel) (by decide +kernel), zgw_of 417 (by decide +kernel) (by decide +kernel), zgw_of 20 (by decide +kernel) (by decide +kernel), zgw_of 79 (by decide +kernel) (by decide +kernel), by decide +kernel, by decide +kernel, by decide +kernel⟩
theorem zk_X1_loseOldest : zkV yX1_loseOldest cX1_loseOldest 1 none 0 := ⟨zgw_of 422 (by decide +kernel) (by decide +kernel), zgw_of 421 (by decide +kernel) (by decide +kernel), zgw_of 21 (by decide +kernel) (by decide +kernel), zgw_of 79 (by decide +kernel) (by decide +kernel), by decide +kernel, by decide +kernel, by decide +kernel⟩
theorem zk_X2_drop : zkV yX2_drop cX2_drop 2 none 0 := ⟨zgw_of 378 (by decide +kernel) (by decide +kernel), zgw_of 377 (by decide +kernel) (by decide +kernel), zgw_of 16 (by decide +kernel) (by decide +kernel), zgw_of 80 (by decide +kernel) (by decide +kernel), by decide +kernel, by decide +kernel, by decide +kernel⟩
theorem zk_X2_place : zkS yX2_place cX2_place 2 (some .int) 2 := ⟨zgw_of 637 (by decide +kernel) (by decide +kernel), zgw_of 636 (by decide +kernel) (by decide +kernel), zgw_of 80 (by decide +kernel) (by decide +kernel), by decide +kernel, by decide +kernel, by decide +kernel⟩
theorem zk_X3_adds : zkV yX3_adds cX3_adds 5 none 4 := ⟨zgw_of 557 (by decide +kernel) (by decide +kernel), zgw_of 556 (by decide +kernel) (by decide +kernel), zgw_of 33 (by decide +kernel) (by decide +kernel), zgw_of 82 (by decide +kernel) (by decide +kernel), by decide +kernel, by decide +kernel, by decide +kernel⟩
theorem zk_X3_countSpots : zkV yX3_countSpots cX3_countSpots 5 (some .int) 3 := ⟨zgw_of 610 (by decide +kernel) (by decide +kernel), zgw_of 609 (by decide +kernel) (by decide +kernel), zgw_of 41 (by decide +kernel) (by decide +kernel), zgw_of 82 (by decide +kernel) (by decide +kernel), by decide +kernel, by decide +kernel, by decide +kernel⟩
theorem zk_X3_find : zkV yX3_find cX3_find 4 none 3 := ⟨zgw_of 543 (by decide +kernel) (by decide +kernel), zgw_of 542 (by decide +kernel) (by decide +kernel), zgw_of 31 (by decide +kernel) (by decide +kernel), zgw_of 82 (by decide +kernel) (by decide +kernel), by decide +kernel, by decide +kernel, by decide +kernel⟩
theorem zk_X3_gather : zkV yX3_gather cX3_gather 5 (some .int) 1 := ⟨zgw_of 565 (by decide +kernel) (by decide +kernel), zgw_of 564 (by decide +kernel) (by decide +kernel), zgw_of 35 (by decide +kernel) (by decide +kernel), zgw_of 82 (by decide +kernel) (by decide +kernel), by decide +kernel, by decide +kernel, by decide +kernel⟩
theorem zk_X3_gatherSpots : zkV yX3_gatherSpots cX3_gatherSpots 2 none 0 := ⟨zgw_of 561 (by decide +kernel) (by decide +kernel), zgw_of 560 (by decide +kernel) (by decide +kernel), zgw_of 34 (by decide +kernel) (by decide +kernel), zgw_of 82 (by decide +kernel) (by decide +kernel), by decide +kernel, by decide +kernel, by decide +kernel⟩
theorem zk_X3_hangTogether : zkV yX3_hangTogether cX3_hangTogether 3 (some .boolean) 2 := ⟨zgw_of 569 (by decide +kernel) (by decide +kernel), zgw_of 568 (by decide +kernel) (by decide +kernel), zgw_of 36 (by decide +kernel) (by decide +kernel), zgw_of 82 (by decide +kernel) (by decide +kernel), by decide +kernel, by decide +kernel, by decide +kernel⟩
theorem zk_X3_isOver : zkV yX3_isOver cX3_isOver 1 (some .boolean) 0 := ⟨zgw_of 550 (by decide +kernel) (by decide +kernel), zgw_of 549 (by decide +kernel) (by decide +kernel), zgw_of 32 (by decide +kernel) (by decide +kernel), zgw_of 82 (by decide +kernel) (by decide +kernel), by decide +kernel, by decide +kernel, by decide +kernel⟩
theorem zk_X3_kind : zkV yX3_kind cX3_kind 5 (some .int) 1 := ⟨zgw_of 580 (by decide +kernel) (by decide +kernel), zgw_of 579 (by decide +kernel) (by decide +kernel), zgw_of 38 (by decide +kernel) (by decide +kernel), zgw_of 82 (by decide +kernel) (by decide +kernel), by decide +kernel, by decide +kernel, by decide +kernel⟩
theorem zk_X3_outdate : zkV yX3_outdate cX3_outdate 2 none 0 := ⟨zgw_of 382 (by decide +kernel) (by decide +kernel), zgw_of 381 (by decide +kernel) (by decide +kernel), zgw_of 17 (by decide +kernel) (by decide +kernel), zgw_of 82 (by decide +kernel) (by decide +kernel), by decide +kernel, by decide +kernel, by decide +kernel⟩
theorem zk_X3_search : zkS yX3_search cX3_search 10 none 6 := ⟨zgw_of 546 (by decide +kernel) (by decide +kernel), zgw_of 545 (by decide +kernel) (by decide +kernel), zgw_of 82 (by decide +kernel) (by decide +kernel), by decide +kernel, by decide +kernel, by decide +kernel⟩
theorem zk_X3_tell : zkV yX3_tell cX3_tell 3 none 1 := ⟨zgw_of 576 (by decide +kernel) (by decide +kernel), zgw_of 575 (by decide +kernel) (by decide +kernel), zgw_of 37 (by decide +kernel) (by decide +kernel), zgw_of 82 (by decide +kernel) (by decide +kernel), by decide +kernel, by decide +kernel, by decide +kernel⟩
theorem zk_X3_tellSpot : zkV yX3_tellSpot cX3_tellSpot 3 (some .int) 2 := ⟨zgw_of 602 (by decide +kernel) (by decide +kernel), zgw_of 601 (by decide +kernel) (by decide +kernel), zgw_of 40 (by decide +kernel) (by decide +kernel), zgw_of 82 (by decide +kernel) (by decide +kernel), by decide +kernel, by decide +kernel, by decide +kernel⟩
theorem zk_X3_tellStretch : zkV yX3_tellStretch cX3_tellStretch 10 none 3 := ⟨zgw_of 584 (by decide +kernel) (by decide +kernel), zgw_of 583 (by decide +kernel) (by decide +kernel), zgw_of 39 (by decide +kernel) (by decide +kernel), zgw_of 82 (by decide +kernel) (by decide +kernel), by decide +kernel, by decide +kernel, by decide +kernel⟩
theorem zk_X3_width : zkS yX3_width cX3_width 3 (some .int) 1 := ⟨zgw_of 587 (by decide +kernel) (by decide +kernel), zgw_of 586 (by decide +kernel) (by decide +kernel), zgw_of 82 (by decide +kernel) (by decide +kernel), by decide +kernel, by decide +kernel, by decide +kernel⟩
theorem zk_X4_boxesApart : zkS yX4_boxesApart cX4_boxesApart 5 (some .boolean) 5 := ⟨zgw_of 467 (by decide +kernel) (by decide +kernel), zgw_of 466 (by decide +kernel) (by decide +kernel), zgw_of 86 (by decide +kernel) (by decide +kernel), by decide +kernel, by decide +kernel, by decide +kernel⟩
theorem zk_X4_clears : zkS yX4_clears cX4_clears 6 (some .boolean) 4 := ⟨zgw_of 478 (by decide +kernel) (by decide +kernel), zgw_of 477 (by decide +kernel) (by decide +kernel), zgw_of 86 (by decide +kernel) (by decide +kernel), by decide +kernel, by decide +kernel, by decide +kernel⟩
theorem zk_X4_crossOfSteps : zkS yX4_crossOfSteps cX4_crossOfSteps 6 (some .long) 6 := ⟨zgw_of 492 (by decide +kernel) (by decide +kernel), zgw_of 491 (by decide +kernel) (by decide +kernel), zgw_of 86 (by decide +kernel) (by decide +kernel), by decide +kernel, by decide +kernel, by decide +kernel⟩
theorem zk_X4_endsBeside : zkS yX4_endsBeside cX4_endsBeside 6 (some .boolean) 4 := ⟨zgw_of 505 (by decide +kernel) (by decide +kernel), zgw_of 504 (by decide +kernel) (by decide +kernel), zgw_of 86 (by decide +kernel) (by decide +kernel), by decide +kernel, by decide +kernel, by decide +kernel⟩
theorem zk_X4_endsCross : zkS yX4_endsCross cX4_endsCross 4 (some .boolean) 4 := ⟨zgw_of 502 (by decide +kernel) (by decide +kernel), zgw_of 501 (by decide +kernel) (by decide +kernel), zgw_of 86 (by decide +kernel) (by decide +kernel), by decide +kernel, by decide +kernel, by decide +kernel⟩
theorem zk_X4_placeByBand : zkS yX4_placeByBand cX4_placeByBand 4 (some .int) 3 := ⟨zgw_of 482 (by decide +kernel) (by decide +kernel), zgw_of 481 (by decide +kernel) (by decide +kernel), zgw_of 86 (by decide +kernel) (by decide +kernel), by decide +kernel, by decide +kernel, by decide +kernel⟩
theorem zk_X4_side : zkS yX4_side cX4_side 14 (some .long) 5 := ⟨zgw_of 368 (by decide +kernel) (by decide +kernel), zgw_of 367 (by decide +kernel) (by decide +kernel), zgw_of 86 (by decide +kernel) (by decide +kernel), by decide +kernel, by decide +kernel, by decide +kernel⟩
theorem zk_X4_sign : zkS yX4_sign cX4_sign 2 (some .int) 1 := ⟨zgw_of 499 (by decide +kernel) (by decide +kernel), zgw_of 498 (by decide +kernel) (by decide +kernel), zgw_of 86 (by decide +kernel) (by decide +kernel), by decide +kernel, by decide +kernel, by decide +kernel⟩
theorem zk_X4_wayOfTurn : zkS yX4_wayOfTurn cX4_wayOfTurn 7 (some .int) 4 := ⟨zgw_of 489 (by decide +kernel) (by decide +kernel), zgw_of 488 (by decide +kernel) (by decide +kernel), zgw_of 86 (by decide +kernel) (by decide +kernel), by decide +kernel, by decide +kernel, by decide +kernel⟩
theorem zk_X4_whyApart : zkS yX4_whyApart cX4_whyApart 4 (some .int) 4 := ⟨zgw_of 464 (by decide +kernel) (by decide +kernel), zgw_of 463 (by decide +kernel) (by decide +kernel), zgw_of 86 (by decide +kernel) (by decide +kernel), by decide +kernel, by decide +kernel, by decide +kernel⟩
theorem zk_X5_adds : zkV yX5_adds cX5_adds 2 (some .int) 1 := ⟨zgw_of 287 (by decide +kernel) (by decide +kernel), zgw_of 286 (by decide +kernel) (by decide +kernel), zgw_of 0 (by decide +kernel) (by decide +kernel), zgw_of 77 (by decide +kernel) (by decide +kernel), by decide +kernel, by decide +kernel, by decide +kernel⟩
theorem zk_X5_empties : zkV yX5_empties cX5_empties 2 (some .int) 0 := ⟨zgw_of 295 (by decide +kernel) (by decide +kernel), zgw_of 294 (by decide +kernel) (by decide +kernel), zgw_of 1 (by decide +kernel) (by decide +kernel), zgw_of 77 (by decide +kernel) (by decide +kernel), by decide +kernel, by decide +kernel, by decide +kernel⟩
theorem zk_X5_endsItem : zkV yX5_endsItem cX5_endsItem 1 (some .boolean) 0 := ⟨zgw_of 331 (by decide +kernel) (by decide +kernel), zgw_of 330 (by decide +kernel) (by decide +kernel), zgw_of 9 (by decide +kernel) (by decide +kernel), zgw_of 77 (by decide +kernel) (by decide +kernel), by decide +kernel, by decide +kernel, by decide +kernel⟩
theorem zk_X5_findFault : zkV yX5_findFault cX5_findFault 2 (some .int) 0 := ⟨zgw_of 303 (by decide +kernel) (by decide +kernel), zgw_of 302 (by decide +kernel) (by decide +kernel), zgw_of 2 (by decide +kernel) (by decide +kernel), zgw_of 77 (by decide +kernel) (by decide +kernel), by decide +kernel, by decide +kernel, by decide +kernel⟩
theorem zk_X5_isFigure : zkV yX5_isFigure cX5_isFigure 2 (some .boolean) 1 := ⟨zgw_of 311 (by decide +kernel) (by decide +kernel), zgw_of 310 (by decide +kernel) (by decide +kernel), zgw_of 4 (by decide +kernel) (by decide +kernel), zgw_of 77 (by decide +kernel) (by decide +kernel), by decide +kernel, by decide +kernel, by decide +kernel⟩
theorem zk_X5_opensItem : zkV yX5_opensItem cX5_opensItem 1 (some .boolean) 0 := ⟨zgw_of 323 (by decide +kernel) (by decide +kernel), zgw_of 322 (by decide +kernel) (by decide +kernel), zgw_of 7 (by decide +kernel) (by decide +kernel), zgw_of 77 (by decide +kernel) (by decide +kernel), by decide +kernel, by decide +kernel, by decide +kernel⟩
theorem zk_X5_takesMinus : zkV yX5_takesMinus cX5_takesMinus 1 (some .boolean) 0 := ⟨zgw_of 327 (by decide +kernel) (by decide +kernel), zgw_of 326 (by decide +kernel) (by decide +kernel), zgw_of 8 (by decide +kernel) (by decide +kernel), zgw_of 77 (by decide +kernel) (by decide +kernel), by decide +kernel, by decide +kernel, by decide +kernel⟩
theorem zk_X5_takesNumber : zkV yX5_takesNumber cX5_takesNumber 3 (some .boolean) 1 := ⟨zgw_of 315 (by decide +kernel) (by decide +kernel), zgw_of 314 (by decide +kernel) (by decide +kernel), zgw_of 5 (by decide +kernel) (by decide +kernel), zgw_of 77 (by decide +kernel) (by decide +kernel), by decide +kernel, by decide +kernel, by decide +kernel⟩
theorem zk_X5_takesToken : zkV yX5_takesToken cX5_takesToken 2 (some .boolean) 1 := ⟨zgw_of 307 (by decide +kernel) (by decide +kernel), zgw_of 306 (by decide +kernel) (by decide +kernel), zgw_of 3 (by decide +kernel) (by decide +kernel), zgw_of 77 (by decide +kernel) (by decide +kernel), by decide +kernel, by decide +kernel, by decide +kernel⟩
theorem zk_X5_wantsNumber : zkV yX5_wantsNumber cX5_wantsNumber 1 (some .boolean) 0 := ⟨zgw_of 319 (by decide +kernel) (by decide +kernel), zgw_of 318 (by decide +kernel) (by decide +kernel), zgw_of 6 (by decide +kernel) (by decide +kernel), zgw_of 77 (by decide +kernel) (by decide +kernel), by decide +kernel, by decide +kernel, by decide +kernel⟩
theorem zk_X6_adds : zkV yX6_adds cX6_adds 3 (some .int) 2 := ⟨zgw_of 619 (by decide +kernel) (by decide +kernel), zgw_of 618 (by decide +kernel) (by decide +kernel), zgw_of 42 (by decide +kernel) (by decide +kernel), zgw_of 81 (by decide +kernel) (by decide +kernel), by decide +kernel, by decide +kernel, by decide +kernel⟩
theorem zk_X7_apart : zkV yX7_apart cX7_apart 5 (some .int) 4 := ⟨zgw_of 457 (by decide +kernel) (by decide +kernel), zgw_of 455 (by decide +kernel) (by decide +kernel), zgw_of 456 (by decide +kernel) (by decide +kernel), zgw_of 76 (by decide +kernel) (by decide +kernel), by decide +kernel, by decide +kernel, by decide +kernel⟩
theorem zk_X7_arcs : zkV yX7_arcs cX7_arcs 3 (some .int) 0 := ⟨zgw_of 299 (by decide +kernel) (by decide +kernel), zgw_of 297 (by decide +kernel) (by decide +kernel), zgw_of 298 (by decide +kernel) (by decide +kernel), zgw_of 76 (by decide +kernel) (by decide +kernel), by decide +kernel, by decide +kernel, by decide +kernel⟩
theorem zk_X7_areTwoArcs : zkV yX7_areTwoArcs cX7_areTwoArcs 3 (some .boolean) 2 := ⟨zgw_of 461 (by decide +kernel) (by decide +kernel), zgw_of 460 (by decide +kernel) (by decide +kernel), zgw_of 26 (by decide +kernel) (by decide +kernel), zgw_of 76 (by decide +kernel) (by decide +kernel), by decide +kernel, by decide +kernel, by decide +kernel⟩
theorem zk_X7_area : zkV yX7_area cX7_area 5 (some .int) 2 := ⟨zgw_of 526 (by decide +kernel) (by decide +kernel), zgw_of 524 (by decide +kernel) (by decide +kernel), zgw_of 525 (by decide +kernel) (by decide +kernel), zgw_of 76 (by decide +kernel) (by decide +kernel), by decide +kernel, by decide +kernel, by decide +kernel⟩
theorem zk_X7_back : zkV yX7_back cX7_back 3 (some .int) 1 := ⟨zgw_of 642 (by decide +kernel) (by decide +kernel), zgw_of 640 (by decide +kernel) (by decide +kernel), zgw_of 641 (by decide +kernel) (by decide +kernel), zgw_of 76 (by decide +kernel) (by decide +kernel), by decide +kernel, by decide +kernel, by decide +kernel⟩
theorem zk_X7_bends : zkV yX7_bends cX7_bends 8 (some .int) 2 := ⟨zgw_of 509 (by decide +kernel) (by decide +kernel), zgw_of 507 (by decide +kernel) (by decide +kernel), zgw_of 508 (by decide +kernel) (by decide +kernel), zgw_of 76 (by decide +kernel) (by decide +kernel), by decide +kernel, by decide +kernel, by decide +kernel⟩
theorem zk_X7_busiest : zkV yX7_busiest cX7_busiest 8 (some .int) 1 := ⟨zgw_of 606 (by decide +kernel) (by decide +kernel), zgw_of 604 (by decide +kernel) (by decide +kernel), zgw_of 605 (by decide +kernel) (by decide +kernel), zgw_of 76 (by decide +kernel) (by decide +kernel), by decide +kernel, by decide +kernel, by decide +kernel⟩
theorem zk_X7_clear : zkV yX7_clear cX7_clear 1 (some .int) 0 := ⟨zgw_of 291 (by decide +kernel) (by decide +kernel), zgw_of 289 (by decide +kernel) (by decide +kernel), zgw_of 290 (by decide +kernel) (by decide +kernel), zgw_of 76 (by decide +kernel) (by decide +kernel), by decide +kernel, by decide +kernel, by decide +kernel⟩
theorem zk_X7_commonDivisor : zkS yX7_commonDivisor cX7_commonDivisor 2 (some .int) 1 := ⟨zgw_of 535 (by decide +kernel) (by decide +kernel), zgw_of 534 (by decide +kernel) (by decide +kernel), zgw_of 76 (by decide +kernel) (by decide +kernel), by decide +kernel, by decide +kernel, by decide +kernel⟩
theorem zk_X7_count : zkV yX7_count cX7_count 2 (some .int) 1 := ⟨zgw_of 646 (by decide +kernel) (by decide +kernel), zgw_of 644 (by decide +kernel) (by decide +kernel), zgw_of 645 (by decide +kernel) (by decide +kernel), zgw_of 76 (by decide +kernel) (by decide +kernel), by decide +kernel, by decide +kernel, by decide +kernel⟩
theorem zk_X7_forget : zkV yX7_forget cX7_forget 2 (some .int) 0 := ⟨zgw_of 623 (by decide +kernel) (by decide +kernel), zgw_of 621 (by decide +kernel) (by decide +kernel), zgw_of 622 (by decide +kernel) (by decide +kernel), zgw_of 76 (by decide +kernel) (by decide +kernel), by decide +kernel, by decide +kernel, by decide +kernel⟩
theorem zk_X7_goes : zkV yX7_goes cX7_goes 8 (some .int) 3 := ⟨zgw_of 519 (by decide +kernel) (by decide +kernel), zgw_of 517 (by decide +kernel) (by decide +kernel), zgw_of 518 (by decide +kernel) (by decide +kernel), zgw_of 76 (by decide +kernel) (by decide +kernel), by decide +kernel, by decide +kernel, by decide +kernel⟩
theorem zk_X7_isArc : zkV yX7_isArc cX7_isArc 2 (some .boolean) 1 := ⟨zgw_of 390 (by decide +kernel) (by decide +kernel), zgw_of 389 (by decide +kernel) (by decide +kernel), zgw_of 18 (by decide +kernel) (by decide +kernel), zgw_of 76 (by decide +kernel) (by decide +kernel), by decide +kernel, by decide +kernel, by decide +kernel⟩
theorem zk_X7_isAxis : zkS yX7_isAxis cX7_isAxis 1 (some .boolean) 1 := ⟨zgw_of 399 (by decide +kernel) (by decide +kernel), zgw_of 398 (by decide +kernel) (by decide +kernel), zgw_of 76 (by decide +kernel) (by decide +kernel), by decide +kernel, by decide +kernel, by decide +kernel⟩
theorem zk_X7_isCoordinate : zkS yX7_isCoordinate cX7_isCoordinate 2 (some .boolean) 1 := ⟨zgw_of 408 (by decide +kernel) (by decide +kernel), zgw_of 407 (by decide +kernel) (by decide +kernel), zgw_of 76 (by decide +kernel) (by decide +kernel), by decide +kernel, by decide +kernel, by decide +kernel⟩
theorem zk_X7_isImage : zkS yX7_isImage cX7_isImage 1 (some .boolean) 1 := ⟨zgw_of 634 (by decide +kernel) (by decide +kernel), zgw_of 633 (by decide +kernel) (by decide +kernel), zgw_of 76 (by decide +kernel) (by decide +kernel), by decide +kernel, by decide +kernel, by decide +kernel⟩
theorem zk_X7_isNode : zkS yX7_isNode cX7_isNode 1 (some .boolean) 1 := ⟨zgw_of 393 (by decide +kernel) (by decide +kernel), zgw_of 392 (by decide +kernel) (by decide +kernel), zgw_of 76 (by decide +kernel) (by decide +kernel), by decide +kernel, by decide +kernel, by decide +kernel⟩
theorem zk_X7_isPoint : zkS yX7_isPoint cX7_isPoint 1 (some .boolean) 1 := ⟨zgw_of 396 (by decide +kernel) (by decide +kernel), zgw_of 395 (by decide +kernel) (by decide +kernel), zgw_of 76 (by decide +kernel) (by decide +kernel), by decide +kernel, by decide +kernel, by decide +kernel⟩
theorem zk_X7_keep : zkV yX7_keep cX7_keep 3 (some .int) 1 := ⟨zgw_of 631 (by decide +kernel) (by decide +kernel), zgw_of 629 (by decide +kernel) (by decide +kernel), zgw_of 630 (by decide +kernel) (by decide +kernel), zgw_of 76 (by decide +kernel) (by decide +kernel), by decide +kernel, by decide +kernel, by decide +kernel⟩
theorem zk_X7_meeting : zkV yX7_meeting cX7_meeting 5 (some .int) 4 := ⟨zgw_of 594 (by decide +kernel) (by decide +kernel), zgw_of 592 (by decide +kernel) (by decide +kernel), zgw_of 593 (by decide +kernel) (by decide +kernel), zgw_of 76 (by decide +kernel) (by decide +kernel), by decide +kernel, by decide +kernel, by decide +kernel⟩
theorem zk_X7_meets : zkV yX7_meets cX7_meets 4 (some .int) 3 := ⟨zgw_of 539 (by decide +kernel) (by decide +kernel), zgw_of 537 (by decide +kernel) (by decide +kernel), zgw_of 538 (by decide +kernel) (by decide +kernel), zgw_of 76 (by decide +kernel) (by decide +kernel), by decide +kernel, by decide +kernel, by decide +kernel⟩
theorem zk_X7_moves : zkV yX7_moves cX7_moves 6 (some .int) 4 := ⟨zgw_of 405 (by decide +kernel) (by decide +kernel), zgw_of 403 (by decide +kernel) (by decide +kernel), zgw_of 404 (by decide +kernel) (by decide +kernel), zgw_of 76 (by decide +kernel) (by decide +kernel), by decide +kernel, by decide +kernel, by decide +kernel⟩
theorem zk_X7_point : zkV yX7_point cX7_point 5 (some .int) 4 := ⟨zgw_of 386 (by decide +kernel) (by decide +kernel), zgw_of 384 (by decide +kernel) (by decide +kernel), zgw_of 385 (by decide +kernel) (by decide +kernel), zgw_of 76 (by decide +kernel) (by decide +kernel), by decide +kernel, by decide +kernel, by decide +kernel⟩
theorem zk_X7_reverses : zkV yX7_reverses cX7_reverses 2 (some .int) 1 := ⟨zgw_of 441 (by decide +kernel) (by decide +kernel), zgw_of 439 (by decide +kernel) (by decide +kernel), zgw_of 440 (by decide +kernel) (by decide +kernel), zgw_of 76 (by decide +kernel) (by decide +kernel), by decide +kernel, by decide +kernel, by decide +kernel⟩
theorem zk_X7_sees : zkV yX7_sees cX7_sees 3 (some .int) 2 := ⟨zgw_of 615 (by decide +kernel) (by decide +kernel), zgw_of 613 (by decide +kernel) (by decide +kernel), zgw_of 614 (by decide +kernel) (by decide +kernel), zgw_of 76 (by decide +kernel) (by decide +kernel), by decide +kernel, by decide +kernel, by decide +kernel⟩
theorem zk_X7_shifts : zkV yX7_shifts cX7_shifts 4 (some .int) 3 := ⟨zgw_of 428 (by decide +kernel) (by decide +kernel), zgw_of 426 (by decide +kernel) (by decide +kernel), zgw_of 427 (by decide +kernel) (by decide +kernel), zgw_of 76 (by decide +kernel) (by decide +kernel), by decide +kernel, by decide +kernel, by decide +kernel⟩
theorem zk_X7_spot : zkV yX7_spot cX7_spot 5 (some .int) 4 := ⟨zgw_of 598 (by decide +kernel) (by decide +kernel), zgw_of 596 (by decide +kernel) (by decide +kernel), zgw_of 597 (by decide +kernel) (by decide +kernel), zgw_of 76 (by decide +kernel) (by decide +kernel), by decide +kernel, by decide +kernel, by decide +kernel⟩
theorem zk_X7_startChange : zkV yX7_startChange cX7_startChange 2 none 1 := ⟨zgw_of 414 (by decide +kernel) (by decide +kernel), zgw_of 413 (by decide +kernel) (by decide +kernel), zgw_of 19 (by decide +kernel) (by decide +kernel), zgw_of 76 (by decide +kernel) (by decide +kernel), by decide +kernel, by decide +kernel, by decide +kernel⟩
theorem zk_X7_turn : zkV yX7_turn cX7_turn 7 (some .int) 4 := ⟨zgw_of 486 (by decide +kernel) (by decide +kernel), zgw_of 484 (by decide +kernel) (by decide +kernel), zgw_of 485 (by decide +kernel) (by decide +kernel), zgw_of 76 (by decide +kernel) (by decide +kernel), by decide +kernel, by decide +kernel, by decide +kernel⟩
theorem zk_X7_type : zkV yX7_type cX7_type 2 (some .int) 1 := ⟨zgw_of 283 (by decide +kernel) (by decide +kernel), zgw_of 281 (by decide +kernel) (by decide +kernel), zgw_of 282 (by decide +kernel) (by decide +kernel), zgw_of 76 (by decide +kernel) (by decide +kernel), by decide +kernel, by decide +kernel, by decide +kernel⟩
theorem zk_X7_undo : zkV yX7_undo cX7_undo 2 (some .int) 0 := ⟨zgw_of 453 (by decide +kernel) (by decide +kernel), zgw_of 451 (by decide +kernel) (by decide +kernel), zgw_of 452 (by decide +kernel) (by decide +kernel), zgw_of 76 (by decide +kernel) (by decide +kernel), by decide +kernel, by decide +kernel, by decide +kernel⟩
theorem zk_X7_unseen : zkV yX7_unseen cX7_unseen 5 (some .int) 0 := ⟨zgw_of 627 (by decide +kernel) (by decide +kernel), zgw_of 625 (by decide +kernel) (by decide +kernel), zgw_of 626 (by decide +kernel) (by decide +kernel), zgw_of 76 (by decide +kernel) (by decide +kernel), by decide +kernel, by decide +kernel, by decide +kernel⟩
theorem zk_X7_whichSigns : zkS yX7_whichSigns cX7_whichSigns 4 (some .int) 2 := ⟨zgw_of 515 (by decide +kernel) (by decide +kernel), zgw_of 514 (by decide +kernel) (by decide +kernel), zgw_of 76 (by decide +kernel) (by decide +kernel), by decide +kernel, by decide +kernel, by decide +kernel⟩
theorem zk_X8_apart : zkV yX8_apart cX8_apart 5 (some .int) 4 := ⟨zgw_of 801 (by decide +kernel) (by decide +kernel), zgw_of 799 (by decide +kernel) (by decide +kernel), zgw_of 800 (by decide +kernel) (by decide +kernel), zgw_of 83 (by decide +kernel) (by decide +kernel), by decide +kernel, by decide +kernel, by decide +kernel⟩
theorem zk_X8_apartOf : zkV yX8_apartOf cX8_apartOf 5 (some .int) 4 := ⟨zgw_of 809 (by decide +kernel) (by decide +kernel), zgw_of 808 (by decide +kernel) (by decide +kernel), zgw_of 51 (by decide +kernel) (by decide +kernel), zgw_of 83 (by decide +kernel) (by decide +kernel), by decide +kernel, by decide +kernel, by decide +kernel⟩
theorem zk_X8_arcs : zkV yX8_arcs cX8_arcs 2 (some .int) 0 := ⟨zgw_of 752 (by decide +kernel) (by decide +kernel), zgw_of 750 (by decide +kernel) (by decide +kernel), zgw_of 751 (by decide +kernel) (by decide +kernel), zgw_of 83 (by decide +kernel) (by decide +kernel), by decide +kernel, by decide +kernel, by decide +kernel⟩
theorem zk_X8_areBoxesApart : zkV yX8_areBoxesApart cX8_areBoxesApart 7 (some .boolean) 4 := ⟨zgw_of 813 (by decide +kernel) (by decide +kernel), zgw_of 812 (by decide +kernel) (by decide +kernel), zgw_of 52 (by decide +kernel) (by decide +kernel), zgw_of 83 (by decide +kernel) (by decide +kernel), by decide +kernel, by decide +kernel, by decide +kernel⟩
theorem zk_X8_areCrossed : zkV yX8_areCrossed cX8_areCrossed 5 (some .boolean) 4 := ⟨zgw_of 856 (by decide +kernel) (by decide +kernel), zgw_of 855 (by decide +kernel) (by decide +kernel), zgw_of 61 (by decide +kernel) (by decide +kernel), zgw_of 83 (by decide +kernel) (by decide +kernel), by decide +kernel, by decide +kernel, by decide +kernel⟩
theorem zk_X8_areNear : zkV yX8_areNear cX8_areNear 3 (some .boolean) 2 := ⟨zgw_of 911 (by decide +kernel) (by decide +kernel), zgw_of 910 (by decide +kernel) (by decide +kernel), zgw_of 70 (by decide +kernel) (by decide +kernel), zgw_of 83 (by decide +kernel) (by decide +kernel), by decide +kernel, by decide +kernel, by decide +kernel⟩
theorem zk_X8_arePair : zkV yX8_arePair cX8_arePair 3 (some .boolean) 2 := ⟨zgw_of 805 (by decide +kernel) (by decide +kernel), zgw_of 804 (by decide +kernel) (by decide +kernel), zgw_of 50 (by decide +kernel) (by decide +kernel), zgw_of 83 (by decide +kernel) (by decide +kernel), by decide +kernel, by decide +kernel, by decide +kernel⟩
theorem zk_X8_area : zkV yX8_area cX8_area 7 (some .int) 2 := ⟨zgw_of 879 (by decide +kernel) (by decide +kernel), zgw_of 877 (by decide +kernel) (by decide +kernel), zgw_of 878 (by decide +kernel) (by decide +kernel), zgw_of 83 (by decide +kernel) (by decide +kernel), by decide +kernel, by decide +kernel, by decide +kernel⟩
theorem zk_X8_areaOf : zkV yX8_areaOf cX8_areaOf 2 (some .int) 1 := ⟨zgw_of 883 (by decide +kernel) (by decide +kernel), zgw_of 882 (by decide +kernel) (by decide +kernel), zgw_of 64 (by decide +kernel) (by decide +kernel), zgw_of 83 (by decide +kernel) (by decide +kernel), by decide +kernel, by decide +kernel, by decide +kernel⟩
theorem zk_X8_at : zkV yX8_at cX8_at 5 (some .int) 4 := ⟨zgw_of 797 (by decide +kernel) (by decide +kernel), zgw_of 796 (by decide +kernel) (by decide +kernel), zgw_of 49 (by decide +kernel) (by decide +kernel), zgw_of 83 (by decide +kernel) (by decide +kernel), by decide +kernel, by decide +kernel, by decide +kernel⟩
theorem zk_X8_back : zkV yX8_back cX8_back 3 (some .int) 1 := ⟨zgw_of 975 (by decide +kernel) (by decide +kernel), zgw_of 973 (by decide +kernel) (by decide +kernel), zgw_of 974 (by decide +kernel) (by decide +kernel), zgw_of 83 (by decide +kernel) (by decide +kernel), by decide +kernel, by decide +kernel, by decide +kernel⟩
theorem zk_X8_bandHigh : zkV yX8_bandHigh cX8_bandHigh 8 (some .long) 2 := ⟨zgw_of 840 (by decide +kernel) (by decide +kernel), zgw_of 839 (by decide +kernel) (by decide +kernel), zgw_of 58 (by decide +kernel) (by decide +kernel), zgw_of 83 (by decide +kernel) (by decide +kernel), by decide +kernel, by decide +kernel, by decide +kernel⟩
theorem zk_X8_bandLow : zkV yX8_bandLow cX8_bandLow 8 (some .long) 2 := ⟨zgw_of 829 (by decide +kernel) (by decide +kernel), zgw_of 828 (by decide +kernel) (by decide +kernel), zgw_of 56 (by decide +kernel) (by decide +kernel), zgw_of 83 (by decide +kernel) (by decide +kernel), by decide +kernel, by decide +kernel, by decide +kernel⟩
theorem zk_X8_bend : zkV yX8_bend cX8_bend 4 (some .long) 3 := ⟨zgw_of 868 (by decide +kernel) (by decide +kernel), zgw_of 867 (by decide +kernel) (by decide +kernel), zgw_of 63 (by decide +kernel) (by decide +kernel), zgw_of 83 (by decide +kernel) (by decide +kernel), by decide +kernel, by decide +kernel, by decide +kernel⟩
theorem zk_X8_bends : zkV yX8_bends cX8_bends 3 (some .int) 2 := ⟨zgw_of 864 (by decide +kernel) (by decide +kernel), zgw_of 862 (by decide +kernel) (by decide +kernel), zgw_of 863 (by decide +kernel) (by decide +kernel), zgw_of 83 (by decide +kernel) (by decide +kernel), by decide +kernel, by decide +kernel, by decide +kernel⟩
theorem zk_X8_beyond : zkV yX8_beyond cX8_beyond 15 (some .int) 6 := ⟨zgw_of 825 (by decide +kernel) (by decide +kernel), zgw_of 824 (by decide +kernel) (by decide +kernel), zgw_of 55 (by decide +kernel) (by decide +kernel), zgw_of 83 (by decide +kernel) (by decide +kernel), by decide +kernel, by decide +kernel, by decide +kernel⟩
theorem zk_X8_busiest : zkV yX8_busiest cX8_busiest 7 (some .int) 1 := ⟨zgw_of 931 (by decide +kernel) (by decide +kernel), zgw_of 929 (by decide +kernel) (by decide +kernel), zgw_of 930 (by decide +kernel) (by decide +kernel), zgw_of 83 (by decide +kernel) (by decide +kernel), by decide +kernel, by decide +kernel, by decide +kernel⟩
theorem zk_X8_clear : zkV yX8_clear cX8_clear 2 (some .int) 0 := ⟨zgw_of 748 (by decide +kernel) (by decide +kernel), zgw_of 746 (by decide +kernel) (by decide +kernel), zgw_of 747 (by decide +kernel) (by decide +kernel), zgw_of 83 (by decide +kernel) (by decide +kernel), by decide +kernel, by decide +kernel, by decide +kernel⟩
theorem zk_X8_clears : zkV yX8_clears cX8_clears 5 (some .boolean) 4 := ⟨zgw_of 821 (by decide +kernel) (by decide +kernel), zgw_of 820 (by decide +kernel) (by decide +kernel), zgw_of 54 (by decide +kernel) (by decide +kernel), zgw_of 83 (by decide +kernel) (by decide +kernel), by decide +kernel, by decide +kernel, by decide +kernel⟩
theorem zk_X8_count : zkV yX8_count cX8_count 2 (some .int) 1 := ⟨zgw_of 979 (by decide +kernel) (by decide +kernel), zgw_of 977 (by decide +kernel) (by decide +kernel), zgw_of 978 (by decide +kernel) (by decide +kernel), zgw_of 83 (by decide +kernel) (by decide +kernel), by decide +kernel, by decide +kernel, by decide +kernel⟩
theorem zk_X8_cross : zkS yX8_cross cX8_cross 8 (some .long) 4 := ⟨zgw_of 836 (by decide +kernel) (by decide +kernel), zgw_of 835 (by decide +kernel) (by decide +kernel), zgw_of 83 (by decide +kernel) (by decide +kernel), by decide +kernel, by decide +kernel, by decide +kernel⟩
theorem zk_X8_crossOf : zkV yX8_crossOf cX8_crossOf 5 (some .int) 3 := ⟨zgw_of 887 (by decide +kernel) (by decide +kernel), zgw_of 886 (by decide +kernel) (by decide +kernel), zgw_of 65 (by decide +kernel) (by decide +kernel), zgw_of 83 (by decide +kernel) (by decide +kernel), by decide +kernel, by decide +kernel, by decide +kernel⟩
theorem zk_X8_depth : zkS yX8_depth cX8_depth 2 (some .int) 1 := ⟨zgw_of 786 (by decide +kernel) (by decide +kernel), zgw_of 785 (by decide +kernel) (by decide +kernel), zgw_of 83 (by decide +kernel) (by decide +kernel), by decide +kernel, by decide +kernel, by decide +kernel⟩
theorem zk_X8_extreme : zkV yX8_extreme cX8_extreme 8 (some .int) 4 := ⟨zgw_of 817 (by decide +kernel) (by decide +kernel), zgw_of 816 (by decide +kernel) (by decide +kernel), zgw_of 53 (by decide +kernel) (by decide +kernel), zgw_of 83 (by decide +kernel) (by decide +kernel), by decide +kernel, by decide +kernel, by decide +kernel⟩
theorem zk_X8_forget : zkV yX8_forget cX8_forget 2 (some .int) 0 := ⟨zgw_of 963 (by decide +kernel) (by decide +kernel), zgw_of 961 (by decide +kernel) (by decide +kernel), zgw_of 962 (by decide +kernel) (by decide +kernel), zgw_of 83 (by decide +kernel) (by decide +kernel), by decide +kernel, by decide +kernel, by decide +kernel⟩
theorem zk_X8_from : zkS yX8_from cX8_from 2 (some .int) 1 := ⟨zgw_of 783 (by decide +kernel) (by decide +kernel), zgw_of 782 (by decide +kernel) (by decide +kernel), zgw_of 83 (by decide +kernel) (by decide +kernel), by decide +kernel, by decide +kernel, by decide +kernel⟩
theorem zk_X8_goes : zkV yX8_goes cX8_goes 7 (some .int) 3 := ⟨zgw_of 875 (by decide +kernel) (by decide +kernel), zgw_of 873 (by decide +kernel) (by decide +kernel), zgw_of 874 (by decide +kernel) (by decide +kernel), zgw_of 83 (by decide +kernel) (by decide +kernel), by decide +kernel, by decide +kernel, by decide +kernel⟩
theorem zk_X8_in : zkS yX8_in cX8_in 3 (some .boolean) 3 := ⟨zgw_of 744 (by decide +kernel) (by decide +kernel), zgw_of 743 (by decide +kernel) (by decide +kernel), zgw_of 83 (by decide +kernel) (by decide +kernel), by decide +kernel, by decide +kernel, by decide +kernel⟩
theorem zk_X8_isAcross : zkV yX8_isAcross cX8_isAcross 5 (some .boolean) 4 := ⟨zgw_of 860 (by decide +kernel) (by decide +kernel), zgw_of 859 (by decide +kernel) (by decide +kernel), zgw_of 62 (by decide +kernel) (by decide +kernel), zgw_of 83 (by decide +kernel) (by decide +kernel), by decide +kernel, by decide +kernel, by decide +kernel⟩
theorem zk_X8_isArc : zkV yX8_isArc cX8_isArc 2 (some .boolean) 1 := ⟨zgw_of 772 (by decide +kernel) (by decide +kernel), zgw_of 771 (by decide +kernel) (by decide +kernel), zgw_of 46 (by decide +kernel) (by decide +kernel), zgw_of 83 (by decide +kernel) (by decide +kernel), by decide +kernel, by decide +kernel, by decide +kernel⟩
theorem zk_X8_isFigure : zkV yX8_isFigure cX8_isFigure 2 (some .boolean) 1 := ⟨zgw_of 760 (by decide +kernel) (by decide +kernel), zgw_of 759 (by decide +kernel) (by decide +kernel), zgw_of 44 (by decide +kernel) (by decide +kernel), zgw_of 83 (by decide +kernel) (by decide +kernel), by decide +kernel, by decide +kernel, by decide +kernel⟩
theorem zk_X8_isNode : zkS yX8_isNode cX8_isNode 1 (some .boolean) 1 := ⟨zgw_of 775 (by decide +kernel) (by decide +kernel), zgw_of 774 (by decide +kernel) (by decide +kernel), zgw_of 83 (by decide +kernel) (by decide +kernel), by decide +kernel, by decide +kernel, by decide +kernel⟩
theorem zk_X8_isTooMany : zkV yX8_isTooMany cX8_isTooMany 6 (some .boolean) 4 := ⟨zgw_of 903 (by decide +kernel) (by decide +kernel), zgw_of 902 (by decide +kernel) (by decide +kernel), zgw_of 68 (by decide +kernel) (by decide +kernel), zgw_of 83 (by decide +kernel) (by decide +kernel), by decide +kernel, by decide +kernel, by decide +kernel⟩
theorem zk_X8_keep : zkV yX8_keep cX8_keep 3 (some .int) 1 := ⟨zgw_of 971 (by decide +kernel) (by decide +kernel), zgw_of 969 (by decide +kernel) (by decide +kernel), zgw_of 970 (by decide +kernel) (by decide +kernel), zgw_of 83 (by decide +kernel) (by decide +kernel), by decide +kernel, by decide +kernel, by decide +kernel⟩
theorem zk_X8_kindOf : zkV yX8_kindOf cX8_kindOf 10 (some .int) 3 := ⟨zgw_of 923 (by decide +kernel) (by decide +kernel), zgw_of 922 (by decide +kernel) (by decide +kernel), zgw_of 71 (by decide +kernel) (by decide +kernel), zgw_of 83 (by decide +kernel) (by decide +kernel), by decide +kernel, by decide +kernel, by decide +kernel⟩
theorem zk_X8_lays : zkV yX8_lays cX8_lays 7 none 0 := ⟨zgw_of 780 (by decide +kernel) (by decide +kernel), zgw_of 779 (by decide +kernel) (by decide +kernel), zgw_of 47 (by decide +kernel) (by decide +kernel), zgw_of 83 (by decide +kernel) (by decide +kernel), by decide +kernel, by decide +kernel, by decide +kernel⟩
theorem zk_X8_laysSpots : zkV yX8_laysSpots cX8_laysSpots 5 none 0 := ⟨zgw_of 907 (by decide +kernel) (by decide +kernel), zgw_of 906 (by decide +kernel) (by decide +kernel), zgw_of 69 (by decide +kernel) (by decide +kernel), zgw_of 83 (by decide +kernel) (by decide +kernel), by decide +kernel, by decide +kernel, by decide +kernel⟩
theorem zk_X8_meet : zkV yX8_meet cX8_meet 3 (some .boolean) 2 := ⟨zgw_of 895 (by decide +kernel) (by decide +kernel), zgw_of 894 (by decide +kernel) (by decide +kernel), zgw_of 66 (by decide +kernel) (by decide +kernel), zgw_of 83 (by decide +kernel) (by decide +kernel), by decide +kernel, by decide +kernel, by decide +kernel⟩
theorem zk_X8_meeting : zkV yX8_meeting cX8_meeting 5 (some .int) 4 := ⟨zgw_of 915 (by decide +kernel) (by decide +kernel), zgw_of 913 (by decide +kernel) (by decide +kernel), zgw_of 914 (by decide +kernel) (by decide +kernel), zgw_of 83 (by decide +kernel) (by decide +kernel), by decide +kernel, by decide +kernel, by decide +kernel⟩
theorem zk_X8_meets : zkV yX8_meets cX8_meets 6 (some .int) 3 := ⟨zgw_of 891 (by decide +kernel) (by decide +kernel), zgw_of 889 (by decide +kernel) (by decide +kernel), zgw_of 890 (by decide +kernel) (by decide +kernel), zgw_of 83 (by decide +kernel) (by decide +kernel), by decide +kernel, by decide +kernel, by decide +kernel⟩
theorem zk_X8_moves : zkV yX8_moves cX8_moves 6 (some .int) 4 := ⟨zgw_of 939 (by decide +kernel) (by decide +kernel), zgw_of 937 (by decide +kernel) (by decide +kernel), zgw_of 938 (by decide +kernel) (by decide +kernel), zgw_of 83 (by decide +kernel) (by decide +kernel), by decide +kernel, by decide +kernel, by decide +kernel⟩
theorem zk_X8_notes : zkV yX8_notes cX8_notes 2 none 0 := ⟨zgw_of 943 (by decide +kernel) (by decide +kernel), zgw_of 942 (by decide +kernel) (by decide +kernel), zgw_of 74 (by decide +kernel) (by decide +kernel), zgw_of 83 (by decide +kernel) (by decide +kernel), by decide +kernel, by decide +kernel, by decide +kernel⟩
theorem zk_X8_ofSpot : zkV yX8_ofSpot cX8_ofSpot 8 (some .int) 2 := ⟨zgw_of 927 (by decide +kernel) (by decide +kernel), zgw_of 926 (by decide +kernel) (by decide +kernel), zgw_of 72 (by decide +kernel) (by decide +kernel), zgw_of 83 (by decide +kernel) (by decide +kernel), by decide +kernel, by decide +kernel, by decide +kernel⟩
theorem zk_X8_placeOf : zkV yX8_placeOf cX8_placeOf 10 (some .int) 5 := ⟨zgw_of 793 (by decide +kernel) (by decide +kernel), zgw_of 792 (by decide +kernel) (by decide +kernel), zgw_of 48 (by decide +kernel) (by decide +kernel), zgw_of 83 (by decide +kernel) (by decide +kernel), by decide +kernel, by decide +kernel, by decide +kernel⟩
theorem zk_X8_point : zkV yX8_point cX8_point 5 (some .int) 4 := ⟨zgw_of 768 (by decide +kernel) (by decide +kernel), zgw_of 766 (by decide +kernel) (by decide +kernel), zgw_of 767 (by decide +kernel) (by decide +kernel), zgw_of 83 (by decide +kernel) (by decide +kernel), by decide +kernel, by decide +kernel, by decide +kernel⟩
theorem zk_X8_readsArc : zkV yX8_readsArc cX8_readsArc 3 (some .boolean) 0 := ⟨zgw_of 764 (by decide +kernel) (by decide +kernel), zgw_of 763 (by decide +kernel) (by decide +kernel), zgw_of 45 (by decide +kernel) (by decide +kernel), zgw_of 83 (by decide +kernel) (by decide +kernel), by decide +kernel, by decide +kernel, by decide +kernel⟩
theorem zk_X8_reverses : zkV yX8_reverses cX8_reverses 6 (some .int) 1 := ⟨zgw_of 951 (by decide +kernel) (by decide +kernel), zgw_of 949 (by decide +kernel) (by decide +kernel), zgw_of 950 (by decide +kernel) (by decide +kernel), zgw_of 83 (by decide +kernel) (by decide +kernel), by decide +kernel, by decide +kernel, by decide +kernel⟩
theorem zk_X8_sees : zkV yX8_sees cX8_sees 3 (some .int) 2 := ⟨zgw_of 959 (by decide +kernel) (by decide +kernel), zgw_of 957 (by decide +kernel) (by decide +kernel), zgw_of 958 (by decide +kernel) (by decide +kernel), zgw_of 83 (by decide +kernel) (by decide +kernel), by decide +kernel, by decide +kernel, by decide +kernel⟩
theorem zk_X8_shifts : zkV yX8_shifts cX8_shifts 5 (some .int) 3 := ⟨zgw_of 947 (by decide +kernel) (by decide +kernel), zgw_of 945 (by decide +kernel) (by decide +kernel), zgw_of 946 (by decide +kernel) (by decide +kernel), zgw_of 83 (by decide +kernel) (by decide +kernel), by decide +kernel, by decide +kernel, by decide +kernel⟩
theorem zk_X8_side : zkV yX8_side cX8_side 10 (some .long) 5 := ⟨zgw_of 833 (by decide +kernel) (by decide +kernel), zgw_of 832 (by decide +kernel) (by decide +kernel), zgw_of 57 (by decide +kernel) (by decide +kernel), zgw_of 83 (by decide +kernel) (by decide +kernel), by decide +kernel, by decide +kernel, by decide +kernel⟩
theorem zk_X8_signOf : zkS yX8_signOf cX8_signOf 2 (some .int) 2 := ⟨zgw_of 871 (by decide +kernel) (by decide +kernel), zgw_of 870 (by decide +kernel) (by decide +kernel), zgw_of 83 (by decide +kernel) (by decide +kernel), by decide +kernel, by decide +kernel, by decide +kernel⟩
theorem zk_X8_spot : zkV yX8_spot cX8_spot 5 (some .int) 4 := ⟨zgw_of 919 (by decide +kernel) (by decide +kernel), zgw_of 917 (by decide +kernel) (by decide +kernel), zgw_of 918 (by decide +kernel) (by decide +kernel), zgw_of 83 (by decide +kernel) (by decide +kernel), by decide +kernel, by decide +kernel, by decide +kernel⟩
theorem zk_X8_spotsOf : zkV yX8_spotsOf cX8_spotsOf 3 (some .int) 2 := ⟨zgw_of 935 (by decide +kernel) (by decide +kernel), zgw_of 934 (by decide +kernel) (by decide +kernel), zgw_of 73 (by decide +kernel) (by decide +kernel), zgw_of 83 (by decide +kernel) (by decide +kernel), by decide +kernel, by decide +kernel, by decide +kernel⟩
theorem zk_X8_stepOf : zkV yX8_stepOf cX8_stepOf 5 (some .int) 4 := ⟨zgw_of 852 (by decide +kernel) (by decide +kernel), zgw_of 851 (by decide +kernel) (by decide +kernel), zgw_of 60 (by decide +kernel) (by decide +kernel), zgw_of 83 (by decide +kernel) (by decide +kernel), by decide +kernel, by decide +kernel, by decide +kernel⟩
theorem zk_X8_takes : zkV yX8_takes cX8_takes 1 none 0 := ⟨zgw_of 756 (by decide +kernel) (by decide +kernel), zgw_of 755 (by decide +kernel) (by decide +kernel), zgw_of 43 (by decide +kernel) (by decide +kernel), zgw_of 83 (by decide +kernel) (by decide +kernel), by decide +kernel, by decide +kernel, by decide +kernel⟩
theorem zk_X8_to : zkS yX8_to cX8_to 1 (some .int) 1 := ⟨zgw_of 789 (by decide +kernel) (by decide +kernel), zgw_of 788 (by decide +kernel) (by decide +kernel), zgw_of 83 (by decide +kernel) (by decide +kernel), by decide +kernel, by decide +kernel, by decide +kernel⟩
theorem zk_X8_turn : zkV yX8_turn cX8_turn 7 (some .int) 4 := ⟨zgw_of 844 (by decide +kernel) (by decide +kernel), zgw_of 842 (by decide +kernel) (by decide +kernel), zgw_of 843 (by decide +kernel) (by decide +kernel), zgw_of 83 (by decide +kernel) (by decide +kernel), by decide +kernel, by decide +kernel, by decide +kernel⟩
theorem zk_X8_turnOf : zkV yX8_turnOf cX8_turnOf 10 (some .int) 4 := ⟨zgw_of 848 (by decide +kernel) (by decide +kernel), zgw_of 847 (by decide +kernel) (by decide +kernel), zgw_of 59 (by decide +kernel) (by decide +kernel), zgw_of 83 (by decide +kernel) (by decide +kernel), by decide +kernel, by decide +kernel, by decide +kernel⟩
theorem zk_X8_type : zkV yX8_type cX8_type 2 (some .int) 1 := ⟨zgw_of 741 (by decide +kernel) (by decide +kernel), zgw_of 739 (by decide +kernel) (by decide +kernel), zgw_of 740 (by decide +kernel) (by decide +kernel), zgw_of 83 (by decide +kernel) (by decide +kernel), by decide +kernel, by decide +kernel, by decide +kernel⟩
theorem zk_X8_undo : zkV yX8_undo cX8_undo 2 (some .int) 0 := ⟨zgw_of 955 (by decide +kernel) (by decide +kernel), zgw_of 953 (by decide +kernel) (by decide +kernel), zgw_of 954 (by decide +kernel) (by decide +kernel), zgw_of 83 (by decide +kernel) (by decide +kernel), by decide +kernel, by decide +kernel, by decide +kernel⟩
theorem zk_X8_unseen : zkV yX8_unseen cX8_unseen 5 (some .int) 0 := ⟨zgw_of 967 (by decide +kernel) (by decide +kernel), zgw_of 965 (by decide +kernel) (by decide +kernel), zgw_of 966 (by decide +kernel) (by decide +kernel), zgw_of 83 (by decide +kernel) (by decide +kernel), by decide +kernel, by decide +kernel, by decide +kernel⟩
theorem zk_X8_waits : zkV yX8_waits cX8_waits 3 none 2 := ⟨zgw_of 899 (by decide +kernel) (by decide +kernel), zgw_of 898 (by decide +kernel) (by decide +kernel), zgw_of 67 (by decide +kernel) (by decide +kernel), zgw_of 83 (by decide +kernel) (by decide +kernel), by decide +kernel, by decide +kernel, by decide +kernel⟩
section ZF
variable {G : zG} {X : zX} {M : zMem} {cc : ByteArray} {h nL : Nat} {lv : List (Nat × Value)} {rest : List Value} {pc o : Nat}
theorem zg_X0_9 (C : zC G X cc RX0 h nL) (ho : zkd o = 0) (hd : decode cc pc = .ok (.getfield 9, 3)) (k : zV G X M lv (zR G (o + 1) :: rest) (pc + 3)) : zV G X M lv (zR G o :: rest) pc := zr_get C (Cn := RX0) (Tn := TX0) (Nn := 5) (kk := 0) ho (by decide) (zent_0 ho) rfl zin0 (by decide) zfl_X0_9 rfl hd k
theorem zg_X0_15 (C : zC G X cc RX0 h nL) (ho : zkd o = 0) (hd : decode cc pc = .ok (.getfield 15, 3)) (k : zV G X M lv (zR G (o + 2) :: rest) (pc + 3)) : zV G X M lv (zR G o :: rest) pc := zr_get C (Cn := RX0) (Tn := TX0) (Nn := 5) (kk := 1) ho (by decide) (zent_0 ho) rfl zin0 (by decide) zfl_X0_15 rfl hd k
theorem zg_X0_18 (C : zC G X cc RX0 h nL) (ho : zkd o = 0) (hd : decode cc pc = .ok (.getfield 18, 3)) (k : zV G X M lv (zR G (o + 3) :: rest) (pc + 3)) : zV G X M lv (zR G o :: rest) pc := zr_get C (Cn := RX0) (Tn := TX0) (Nn := 5) (kk := 2) ho (by decide) (zent_0 ho) rfl zin0 (by decide) zfl_X0_18 rfl hd k
theorem zg_X0_21 (C : zC G X cc RX0 h nL) (ho : zkd o = 0) (hd : decode cc pc = .ok (.getfield 21, 3)) (k : zV G X M lv (zR G (o + 4) :: rest) (pc + 3)) : zV G X M lv (zR G o :: rest) pc := zr_get C (Cn := RX0) (Tn := TX0) (Nn := 5) (kk := 3) ho (by decide) (zent_0 ho) rfl zin0 (by decide) zfl_X0_21 rfl hd k
theorem zg_X0_25 (C : zC G X cc RX0 h nL) (ho : zkd o = 0) (hd : decode cc pc = .ok (.getfield 25, 3)) (k : zV G X M lv (zR G (o + 5) :: rest) (pc + 3)) : zV G X M lv (zR G o :: rest) pc := zr_get C (Cn := RX0) (Tn := TX0) (Nn := 5) (kk := 4) ho (by decide) (zent_0 ho) rfl zin0 (by decide) zfl_X0_25 rfl hd k
theorem zg_X1_9 (C : zC G X cc RX1 h nL) (ho : zkd o = 1) (hd : decode cc pc = .ok (.getfield 9, 3)) (k : zV G X M lv (zR G 30 :: rest) (pc + 3)) : zV G X M lv (zR G o :: rest) pc := zr_get C (Cn := RX1) (Tn := TX1) (Nn := 3) (kk := 0) ho (by decide) (zent_1 ho) rfl zin1 (by decide) zfl_X1_9 rfl hd k
theorem zg_X1_15 (C : zC G X cc RX1 h nL) (ho : zkd o = 1) (hd : decode cc pc = .ok (.getfield 15, 3)) (k : zV G X M lv (zR G 31 :: rest) (pc + 3)) : zV G X M lv (zR G o :: rest) pc := zr_get C (Cn := RX1) (Tn := TX1) (Nn := 3) (kk := 1) ho (by decide) (zent_1 ho) rfl zin1 (by decide) zfl_X1_15 rfl hd k
theorem zg_X1_18 (C : zC G X cc RX1 h nL) (ho : zkd o = 1) (hd : decode cc pc = .ok (.getfield 18, 3)) (k : zV G X M lv (.int (M.1 o 2) :: rest) (pc + 3)) : zV G X M lv (zR G o :: rest) pc := zr_get C (Cn := RX1) (Tn := TX1) (Nn := 3) (kk := 2) ho (by decide) (zent_1 ho) rfl zin1 (by decide) zfl_X1_18 rfl hd k
theorem zg_X2_9 (C : zC G X cc RX2 h nL) (ho : zkd o = 2) (hd : decode cc pc = .ok (.getfield 9, 3)) (k : zV G X M lv (zR G 33 :: rest) (pc + 3)) : zV G X M lv (zR G o :: rest) pc := zr_get C (Cn := RX2) (Tn := TX2) (Nn := 2) (kk := 0) ho (by decide) (zent_2 ho) rfl zin2 (by decide) zfl_X2_9 rfl hd k
theorem zg_X3_9 (C : zC G X cc RX3 h nL) (ho : zkd o = 3) (hd : decode cc pc = .ok (.getfield 9, 3)) (k : zV G X M lv (zR G 39 :: rest) (pc + 3)) : zV G X M lv (zR G o :: rest) pc := zr_get C (Cn := RX3) (Tn := TX3) (Nn := 13) (kk := 0) ho (by decide) (zent_3 ho) rfl zin3 (by decide) zfl_X3_9 rfl hd k
theorem zg_X3_15 (C : zC G X cc RX3 h nL) (ho : zkd o = 3) (hd : decode cc pc = .ok (.getfield 15, 3)) (k : zV G X M lv (zR G 40 :: rest) (pc + 3)) : zV G X M lv (zR G o :: rest) pc := zr_get C (Cn := RX3) (Tn := TX3) (Nn := 13) (kk := 1) ho (by decide) (zent_3 ho) rfl zin3 (by decide) zfl_X3_15 rfl hd k
theorem zg_X3_18 (C : zC G X cc RX3 h nL) (ho : zkd o = 3) (hd : decode cc pc = .ok (.getfield 18, 3)) (k : zV G X M lv (zR G 41 :: rest) (pc + 3)) : zV G X M lv (zR G o :: rest) pc := zr_get C (Cn := RX3) (Tn := TX3) (Nn := 13) (kk := 2) ho (by decide) (zent_3 ho) rfl zin3 (by decide) zfl_X3_18 rfl hd k
theorem zg_X3_22 (C : zC G X cc RX3 h nL) (ho : zkd o = 3) (hd : decode cc pc = .ok (.getfield 22, 3)) (k : zV G X M lv (zR G 42 :: rest) (pc + 3)) : zV G X M lv (zR G o :: rest) pc := zr_get C (Cn := RX3) (Tn := TX3) (Nn := 13) (kk := 3) ho (by decide) (zent_3 ho) rfl zin3 (by decide) zfl_X3_22 rfl hd k
theorem zg_X3_25 (C : zC G X cc RX3 h nL) (ho : zkd o = 3) (hd : decode cc pc = .ok (.getfield 25, 3)) (k : zV G X M lv (zR G 43 :: rest) (pc + 3)) : zV G X M lv (zR G o :: rest) pc := zr_get C (Cn := RX3) (Tn := TX3) (Nn := 13) (kk := 4) ho (by decide) (zent_3 ho) rfl zin3 (by decide) zfl_X3_25 rfl hd k
theorem zg_X3_28 (C : zC G X cc RX3 h nL) (ho : zkd o = 3) (hd : decode cc pc = .ok (.getfield 28, 3)) (k : zV G X M lv (.int (M.1 o 5) :: rest) (pc + 3)) : zV G X M lv (zR G o :: rest) pc := zr_get C (Cn := RX3) (Tn := TX3) (Nn := 13) (kk := 5) ho (by decide) (zent_3 ho) rfl zin3 (by decide) zfl_X3_28 rfl hd k
theorem zg_X3_32 (C : zC G X cc RX3 h nL) (ho : zkd o = 3) (hd : decode cc pc = .ok (.getfield 32, 3)) (k : zV G X M lv (.int (M.1 o 6) :: rest) (pc + 3)) : zV G X M lv (zR G o :: rest) pc := zr_get C (Cn := RX3) (Tn := TX3) (Nn := 13) (kk := 6) ho (by decide) (zent_3 ho) rfl zin3 (by decide) zfl_X3_32 rfl hd k
theorem zg_X3_35 (C : zC G X cc RX3 h nL) (ho : zkd o = 3) (hd : decode cc pc = .ok (.getfield 35, 3)) (k : zV G X M lv (.int (M.1 o 7) :: rest) (pc + 3)) : zV G X M lv (zR G o :: rest) pc := zr_get C (Cn := RX3) (Tn := TX3) (Nn := 13) (kk := 7) ho (by decide) (zent_3 ho) rfl zin3 (by decide) zfl_X3_35 rfl hd k
theorem zg_X3_38 (C : zC G X cc RX3 h nL) (ho : zkd o = 3) (hd : decode cc pc = .ok (.getfield 38, 3)) (k : zV G X M lv (zR G 44 :: rest) (pc + 3)) : zV G X M lv (zR G o :: rest) pc := zr_get C (Cn := RX3) (Tn := TX3) (Nn := 13) (kk := 8) ho (by decide) (zent_3 ho) rfl zin3 (by decide) zfl_X3_38 rfl hd k
theorem zg_X3_41 (C : zC G X cc RX3 h nL) (ho : zkd o = 3) (hd : decode cc pc = .ok (.getfield 41, 3)) (k : zV G X M lv (zR G 45 :: rest) (pc + 3)) : zV G X M lv (zR G o :: rest) pc := zr_get C (Cn := RX3) (Tn := TX3) (Nn := 13) (kk := 9) ho (by decide) (zent_3 ho) rfl zin3 (by decide) zfl_X3_41 rfl hd k
theorem zg_X3_44 (C : zC G X cc RX3 h nL) (ho : zkd o = 3) (hd : decode cc pc = .ok (.getfield 44, 3)) (k : zV G X M lv (.int (M.1 o 10) :: rest) (pc + 3)) : zV G X M lv (zR G o :: rest) pc := zr_get C (Cn := RX3) (Tn := TX3) (Nn := 13) (kk := 10) ho (by decide) (zent_3 ho) rfl zin3 (by decide) zfl_X3_44 rfl hd k
theorem zg_X3_47 (C : zC G X cc RX3 h nL) (ho : zkd o = 3) (hd : decode cc pc = .ok (.getfield 47, 3)) (k : zV G X M lv (.int (M.1 o 11) :: rest) (pc + 3)) : zV G X M lv (zR G o :: rest) pc := zr_get C (Cn := RX3) (Tn := TX3) (Nn := 13) (kk := 11) ho (by decide) (zent_3 ho) rfl zin3 (by decide) zfl_X3_47 rfl hd k
theorem zg_X3_50 (C : zC G X cc RX3 h nL) (ho : zkd o = 3) (hd : decode cc pc = .ok (.getfield 50, 3)) (k : zV G X M lv (zR G 46 :: rest) (pc + 3)) : zV G X M lv (zR G o :: rest) pc := zr_get C (Cn := RX3) (Tn := TX3) (Nn := 13) (kk := 12) ho (by decide) (zent_3 ho) rfl zin3 (by decide) zfl_X3_50 rfl hd k
theorem zg_X4_15 (C : zC G X cc RX4 h nL) (ho : zkd o = 0) (hd : decode cc pc = .ok (.getfield 15, 3)) (k : zV G X M lv (zR G (o + 2) :: rest) (pc + 3)) : zV G X M lv (zR G o :: rest) pc := zr_getN C (Cn := RX0) (Tn := TX0) (Nn := 5) (kk := 1) ho (by decide) (zent_0 ho) rfl zin0 (by decide) zfl_X4_15 rfl hd k
theorem zg_X4_19 (C : zC G X cc RX4 h nL) (ho : zkd o = 0) (hd : decode cc pc = .ok (.getfield 19, 3)) (k : zV G X M lv (zR G (o + 5) :: rest) (pc + 3)) : zV G X M lv (zR G o :: rest) pc := zr_getN C (Cn := RX0) (Tn := TX0) (Nn := 5) (kk := 4) ho (by decide) (zent_0 ho) rfl zin0 (by decide) zfl_X4_19 rfl hd k
theorem zg_X4_23 (C : zC G X cc RX4 h nL) (ho : zkd o = 0) (hd : decode cc pc = .ok (.getfield 23, 3)) (k : zV G X M lv (zR G (o + 4) :: rest) (pc + 3)) : zV G X M lv (zR G o :: rest) pc := zr_getN C (Cn := RX0) (Tn := TX0) (Nn := 5) (kk := 3) ho (by decide) (zent_0 ho) rfl zin0 (by decide) zfl_X4_23 rfl hd k
theorem zg_X5_9 (C : zC G X cc RX5 h nL) (ho : zkd o = 4) (hd : decode cc pc = .ok (.getfield 9, 3)) (k : zV G X M lv (zR G 2 :: rest) (pc + 3)) : zV G X M lv (zR G o :: rest) pc := zr_get C (Cn := RX5) (Tn := TX5) (Nn := 6) (kk := 0) ho (by decide) (zent_4 ho) rfl zin4 (by decide) zfl_X5_9 rfl hd k
theorem zg_X5_15 (C : zC G X cc RX5 h nL) (ho : zkd o = 4) (hd : decode cc pc = .ok (.getfield 15, 3)) (k : zV G X M lv (.int (M.1 o 1) :: rest) (pc + 3)) : zV G X M lv (zR G o :: rest) pc := zr_get C (Cn := RX5) (Tn := TX5) (Nn := 6) (kk := 1) ho (by decide) (zent_4 ho) rfl zin4 (by decide) zfl_X5_15 rfl hd k
theorem zg_X5_19 (C : zC G X cc RX5 h nL) (ho : zkd o = 4) (hd : decode cc pc = .ok (.getfield 19, 3)) (k : zV G X M lv (zR G 3 :: rest) (pc + 3)) : zV G X M lv (zR G o :: rest) pc := zr_get C (Cn := RX5) (Tn := TX5) (Nn := 6) (kk := 2) ho (by decide) (zent_4 ho) rfl zin4 (by decide) zfl_X5_19 rfl hd k
theorem zg_X5_22 (C : zC G X cc RX5 h nL) (ho : zkd o = 4) (hd : decode cc pc = .ok (.getfield 22, 3)) (k : zV G X M lv (.int (M.1 o 3) :: rest) (pc + 3)) : zV G X M lv (zR G o :: rest) pc := zr_get C (Cn := RX5) (Tn := TX5) (Nn := 6) (kk := 3) ho (by decide) (zent_4 ho) rfl zin4 (by decide) zfl_X5_22 rfl hd k
theorem zg_X5_25 (C : zC G X cc RX5 h nL) (ho : zkd o = 4) (hd : decode cc pc = .ok (.getfield 25, 3)) (k : zV G X M lv (.int (M.1 o 4) :: rest) (pc + 3)) : zV G X M lv (zR G o :: rest) pc := zr_get C (Cn := RX5) (Tn := TX5) (Nn := 6) (kk := 4) ho (by decide) (zent_4 ho) rfl zin4 (by decide) zfl_X5_25 rfl hd k
theorem zg_X5_28 (C : zC G X cc RX5 h nL) (ho : zkd o = 4) (hd : decode cc pc = .ok (.getfield 28, 3)) (k : zV G X M lv (.int (M.1 o 5) :: rest) (pc + 3)) : zV G X M lv (zR G o :: rest) pc := zr_get C (Cn := RX5) (Tn := TX5) (Nn := 6) (kk := 5) ho (by decide) (zent_4 ho) rfl zin4 (by decide) zfl_X5_28 rfl hd k
theorem zg_X6_9 (C : zC G X cc RX6 h nL) (ho : zkd o = 5) (hd : decode cc pc = .ok (.getfield 9, 3)) (k : zV G X M lv (zR G 36 :: rest) (pc + 3)) : zV G X M lv (zR G o :: rest) pc := zr_get C (Cn := RX6) (Tn := TX6) (Nn := 3) (kk := 0) ho (by decide) (zent_5 ho) rfl zin5 (by decide) zfl_X6_9 rfl hd k
theorem zg_X6_15 (C : zC G X cc RX6 h nL) (ho : zkd o = 5) (hd : decode cc pc = .ok (.getfield 15, 3)) (k : zV G X M lv (zR G 37 :: rest) (pc + 3)) : zV G X M lv (zR G o :: rest) pc := zr_get C (Cn := RX6) (Tn := TX6) (Nn := 3) (kk := 1) ho (by decide) (zent_5 ho) rfl zin5 (by decide) zfl_X6_15 rfl hd k
theorem zg_X6_18 (C : zC G X cc RX6 h nL) (ho : zkd o = 5) (hd : decode cc pc = .ok (.getfield 18, 3)) (k : zV G X M lv (.int (M.1 o 2) :: rest) (pc + 3)) : zV G X M lv (zR G o :: rest) pc := zr_get C (Cn := RX6) (Tn := TX6) (Nn := 3) (kk := 2) ho (by decide) (zent_5 ho) rfl zin5 (by decide) zfl_X6_18 rfl hd k
theorem zg_X7_10 (C : zC G X cc RX7 h nL) (ho : zkd o = 6) (hd : decode cc pc = .ok (.getfield 10, 3)) (k : zV G X M lv (zR G 1 :: rest) (pc + 3)) : zV G X M lv (zR G o :: rest) pc := zr_get C (Cn := RX7) (Tn := TX7) (Nn := 7) (kk := 0) ho (by decide) (zent_6 ho) rfl zin6 (by decide) zfl_X7_10 rfl hd k
theorem zg_X7_18 (C : zC G X cc RX7 h nL) (ho : zkd o = 6) (hd : decode cc pc = .ok (.getfield 18, 3)) (k : zV G X M lv (zR G 4 :: rest) (pc + 3)) : zV G X M lv (zR G o :: rest) pc := zr_get C (Cn := RX7) (Tn := TX7) (Nn := 7) (kk := 1) ho (by decide) (zent_6 ho) rfl zin6 (by decide) zfl_X7_18 rfl hd k
theorem zg_X7_23 (C : zC G X cc RX7 h nL) (ho : zkd o = 6) (hd : decode cc pc = .ok (.getfield 23, 3)) (k : zV G X M lv (.int (M.1 o 2) :: rest) (pc + 3)) : zV G X M lv (zR G o :: rest) pc := zr_get C (Cn := RX7) (Tn := TX7) (Nn := 7) (kk := 2) ho (by decide) (zent_6 ho) rfl zin6 (by decide) zfl_X7_23 rfl hd k
theorem zg_X7_30 (C : zC G X cc RX7 h nL) (ho : zkd o = 6) (hd : decode cc pc = .ok (.getfield 30, 3)) (k : zV G X M lv (zR G 29 :: rest) (pc + 3)) : zV G X M lv (zR G o :: rest) pc := zr_get C (Cn := RX7) (Tn := TX7) (Nn := 7) (kk := 3) ho (by decide) (zent_6 ho) rfl zin6 (by decide) zfl_X7_30 rfl hd k
theorem zg_X7_37 (C : zC G X cc RX7 h nL) (ho : zkd o = 6) (hd : decode cc pc = .ok (.getfield 37, 3)) (k : zV G X M lv (zR G 32 :: rest) (pc + 3)) : zV G X M lv (zR G o :: rest) pc := zr_get C (Cn := RX7) (Tn := TX7) (Nn := 7) (kk := 4) ho (by decide) (zent_6 ho) rfl zin6 (by decide) zfl_X7_37 rfl hd k
theorem zg_X7_44 (C : zC G X cc RX7 h nL) (ho : zkd o = 6) (hd : decode cc pc = .ok (.getfield 44, 3)) (k : zV G X M lv (zR G 35 :: rest) (pc + 3)) : zV G X M lv (zR G o :: rest) pc := zr_get C (Cn := RX7) (Tn := TX7) (Nn := 7) (kk := 5) ho (by decide) (zent_6 ho) rfl zin6 (by decide) zfl_X7_44 rfl hd k
theorem zg_X7_51 (C : zC G X cc RX7 h nL) (ho : zkd o = 6) (hd : decode cc pc = .ok (.getfield 51, 3)) (k : zV G X M lv (zR G 38 :: rest) (pc + 3)) : zV G X M lv (zR G o :: rest) pc := zr_get C (Cn := RX7) (Tn := TX7) (Nn := 7) (kk := 6) ho (by decide) (zent_6 ho) rfl zin6 (by decide) zfl_X7_51 rfl hd k
theorem zg_X7_55 (C : zC G X cc RX7 h nL) (ho : zkd o = 4) (hd : decode cc pc = .ok (.getfield 55, 3)) (k : zV G X M lv (.int (M.1 o 1) :: rest) (pc + 3)) : zV G X M lv (zR G o :: rest) pc := zr_getN C (Cn := RX5) (Tn := TX5) (Nn := 6) (kk := 1) ho (by decide) (zent_4 ho) rfl zin4 (by decide) zfl_X7_55 rfl hd k
theorem zg_X7_69 (C : zC G X cc RX7 h nL) (ho : zkd o = 4) (hd : decode cc pc = .ok (.getfield 69, 3)) (k : zV G X M lv (.int (M.1 o 3) :: rest) (pc + 3)) : zV G X M lv (zR G o :: rest) pc := zr_getN C (Cn := RX5) (Tn := TX5) (Nn := 6) (kk := 3) ho (by decide) (zent_4 ho) rfl zin4 (by decide) zfl_X7_69 rfl hd k
theorem zg_X7_72 (C : zC G X cc RX7 h nL) (ho : zkd o = 4) (hd : decode cc pc = .ok (.getfield 72, 3)) (k : zV G X M lv (zR G 3 :: rest) (pc + 3)) : zV G X M lv (zR G o :: rest) pc := zr_getN C (Cn := RX5) (Tn := TX5) (Nn := 6) (kk := 2) ho (by decide) (zent_4 ho) rfl zin4 (by decide) zfl_X7_72 rfl hd k
theorem zg_X7_80 (C : zC G X cc RX7 h nL) (ho : zkd o = 1) (hd : decode cc pc = .ok (.getfield 80, 3)) (k : zV G X M lv (.int (M.1 o 2) :: rest) (pc + 3)) : zV G X M lv (zR G o :: rest) pc := zr_getN C (Cn := RX1) (Tn := TX1) (Nn := 3) (kk := 2) ho (by decide) (zent_1 ho) rfl zin1 (by decide) zfl_X7_80 rfl hd k
theorem zg_X7_81 (C : zC G X cc RX7 h nL) (ho : zkd o = 5) (hd : decode cc pc = .ok (.getfield 81, 3)) (k : zV G X M lv (.int (M.1 o 2) :: rest) (pc + 3)) : zV G X M lv (zR G o :: rest) pc := zr_getN C (Cn := RX6) (Tn := TX6) (Nn := 3) (kk := 2) ho (by decide) (zent_5 ho) rfl zin5 (by decide) zfl_X7_81 rfl hd k
theorem zg_X7_110 (C : zC G X cc RX7 h nL) (ho : zkd o = 0) (hd : decode cc pc = .ok (.getfield 110, 3)) (k : zV G X M lv (zR G (o + 1) :: rest) (pc + 3)) : zV G X M lv (zR G o :: rest) pc := zr_getN C (Cn := RX0) (Tn := TX0) (Nn := 5) (kk := 0) ho (by decide) (zent_0 ho) rfl zin0 (by decide) zfl_X7_110 rfl hd k
theorem zg_X7_131 (C : zC G X cc RX7 h nL) (ho : zkd o = 1) (hd : decode cc pc = .ok (.getfield 131, 3)) (k : zV G X M lv (zR G 30 :: rest) (pc + 3)) : zV G X M lv (zR G o :: rest) pc := zr_getN C (Cn := RX1) (Tn := TX1) (Nn := 3) (kk := 0) ho (by decide) (zent_1 ho) rfl zin1 (by decide) zfl_X7_131 rfl hd k
theorem zg_X7_134 (C : zC G X cc RX7 h nL) (ho : zkd o = 1) (hd : decode cc pc = .ok (.getfield 134, 3)) (k : zV G X M lv (zR G 31 :: rest) (pc + 3)) : zV G X M lv (zR G o :: rest) pc := zr_getN C (Cn := RX1) (Tn := TX1) (Nn := 3) (kk := 1) ho (by decide) (zent_1 ho) rfl zin1 (by decide) zfl_X7_134 rfl hd k
theorem zg_X7_190 (C : zC G X cc RX7 h nL) (ho : zkd o = 3) (hd : decode cc pc = .ok (.getfield 190, 3)) (k : zV G X M lv (.int (M.1 o 6) :: rest) (pc + 3)) : zV G X M lv (zR G o :: rest) pc := zr_getN C (Cn := RX3) (Tn := TX3) (Nn := 13) (kk := 6) ho (by decide) (zent_3 ho) rfl zin3 (by decide) zfl_X7_190 rfl hd k
theorem zg_X7_193 (C : zC G X cc RX7 h nL) (ho : zkd o = 3) (hd : decode cc pc = .ok (.getfield 193, 3)) (k : zV G X M lv (.int (M.1 o 5) :: rest) (pc + 3)) : zV G X M lv (zR G o :: rest) pc := zr_getN C (Cn := RX3) (Tn := TX3) (Nn := 13) (kk := 5) ho (by decide) (zent_3 ho) rfl zin3 (by decide) zfl_X7_193 rfl hd k
theorem zg_X7_194 (C : zC G X cc RX7 h nL) (ho : zkd o = 3) (hd : decode cc pc = .ok (.getfield 194, 3)) (k : zV G X M lv (.int (M.1 o 7) :: rest) (pc + 3)) : zV G X M lv (zR G o :: rest) pc := zr_getN C (Cn := RX3) (Tn := TX3) (Nn := 13) (kk := 7) ho (by decide) (zent_3 ho) rfl zin3 (by decide) zfl_X7_194 rfl hd k
theorem zg_X7_197 (C : zC G X cc RX7 h nL) (ho : zkd o = 3) (hd : decode cc pc = .ok (.getfield 197, 3)) (k : zV G X M lv (zR G 39 :: rest) (pc + 3)) : zV G X M lv (zR G o :: rest) pc := zr_getN C (Cn := RX3) (Tn := TX3) (Nn := 13) (kk := 0) ho (by decide) (zent_3 ho) rfl zin3 (by decide) zfl_X7_197 rfl hd k
theorem zg_X7_200 (C : zC G X cc RX7 h nL) (ho : zkd o = 3) (hd : decode cc pc = .ok (.getfield 200, 3)) (k : zV G X M lv (zR G 40 :: rest) (pc + 3)) : zV G X M lv (zR G o :: rest) pc := zr_getN C (Cn := RX3) (Tn := TX3) (Nn := 13) (kk := 1) ho (by decide) (zent_3 ho) rfl zin3 (by decide) zfl_X7_200 rfl hd k
theorem zg_X7_203 (C : zC G X cc RX7 h nL) (ho : zkd o = 3) (hd : decode cc pc = .ok (.getfield 203, 3)) (k : zV G X M lv (zR G 43 :: rest) (pc + 3)) : zV G X M lv (zR G o :: rest) pc := zr_getN C (Cn := RX3) (Tn := TX3) (Nn := 13) (kk := 4) ho (by decide) (zent_3 ho) rfl zin3 (by decide) zfl_X7_203 rfl hd k
theorem zg_X7_215 (C : zC G X cc RX7 h nL) (ho : zkd o = 5) (hd : decode cc pc = .ok (.getfield 215, 3)) (k : zV G X M lv (zR G 36 :: rest) (pc + 3)) : zV G X M lv (zR G o :: rest) pc := zr_getN C (Cn := RX6) (Tn := TX6) (Nn := 3) (kk := 0) ho (by decide) (zent_5 ho) rfl zin5 (by decide) zfl_X7_215 rfl hd k
theorem zg_X7_218 (C : zC G X cc RX7 h nL) (ho : zkd o = 5) (hd : decode cc pc = .ok (.getfield 218, 3)) (k : zV G X M lv (zR G 37 :: rest) (pc + 3)) : zV G X M lv (zR G o :: rest) pc := zr_getN C (Cn := RX6) (Tn := TX6) (Nn := 3) (kk := 1) ho (by decide) (zent_5 ho) rfl zin5 (by decide) zfl_X7_218 rfl hd k
theorem zg_X7_224 (C : zC G X cc RX7 h nL) (ho : zkd o = 2) (hd : decode cc pc = .ok (.getfield 224, 3)) (k : zV G X M lv (zR G 33 :: rest) (pc + 3)) : zV G X M lv (zR G o :: rest) pc := zr_getN C (Cn := RX2) (Tn := TX2) (Nn := 2) (kk := 0) ho (by decide) (zent_2 ho) rfl zin2 (by decide) zfl_X7_224 rfl hd k
theorem zg_X7_228 (C : zC G X cc RX7 h nL) (ho : zkd o = 2) (hd : decode cc pc = .ok (.getfield 228, 3)) (k : zV G X M lv (zR G 34 :: rest) (pc + 3)) : zV G X M lv (zR G o :: rest) pc := zr_getN C (Cn := RX2) (Tn := TX2) (Nn := 2) (kk := 1) ho (by decide) (zent_2 ho) rfl zin2 (by decide) zfl_X7_228 rfl hd k
theorem zg_X8_7 (C : zC G X cc RX8 h nL) (ho : zkd o = 7) (hd : decode cc pc = .ok (.getfield 7, 3)) (k : zV G X M lv (zR G 48 :: rest) (pc + 3)) : zV G X M lv (zR G o :: rest) pc := zr_get C (Cn := RX8) (Tn := TX8) (Nn := 28) (kk := 2) ho (by decide) (zent_7 ho) rfl zin7 (by decide) zfl_X8_7 rfl hd k
theorem zg_X8_13 (C : zC G X cc RX8 h nL) (ho : zkd o = 7) (hd : decode cc pc = .ok (.getfield 13, 3)) (k : zV G X M lv (zR G 49 :: rest) (pc + 3)) : zV G X M lv (zR G o :: rest) pc := zr_get C (Cn := RX8) (Tn := TX8) (Nn := 28) (kk := 3) ho (by decide) (zent_7 ho) rfl zin7 (by decide) zfl_X8_13 rfl hd k
theorem zg_X8_16 (C : zC G X cc RX8 h nL) (ho : zkd o = 7) (hd : decode cc pc = .ok (.getfield 16, 3)) (k : zV G X M lv (zR G 50 :: rest) (pc + 3)) : zV G X M lv (zR G o :: rest) pc := zr_get C (Cn := RX8) (Tn := TX8) (Nn := 28) (kk := 5) ho (by decide) (zent_7 ho) rfl zin7 (by decide) zfl_X8_16 rfl hd k
theorem zg_X8_19 (C : zC G X cc RX8 h nL) (ho : zkd o = 7) (hd : decode cc pc = .ok (.getfield 19, 3)) (k : zV G X M lv (zR G 51 :: rest) (pc + 3)) : zV G X M lv (zR G o :: rest) pc := zr_get C (Cn := RX8) (Tn := TX8) (Nn := 28) (kk := 6) ho (by decide) (zent_7 ho) rfl zin7 (by decide) zfl_X8_19 rfl hd k
theorem zg_X8_23 (C : zC G X cc RX8 h nL) (ho : zkd o = 7) (hd : decode cc pc = .ok (.getfield 23, 3)) (k : zV G X M lv (zR G 52 :: rest) (pc + 3)) : zV G X M lv (zR G o :: rest) pc := zr_get C (Cn := RX8) (Tn := TX8) (Nn := 28) (kk := 8) ho (by decide) (zent_7 ho) rfl zin7 (by decide) zfl_X8_23 rfl hd k
theorem zg_X8_26 (C : zC G X cc RX8 h nL) (ho : zkd o = 7) (hd : decode cc pc = .ok (.getfield 26, 3)) (k : zV G X M lv (zR G 53 :: rest) (pc + 3)) : zV G X M lv (zR G o :: rest) pc := zr_get C (Cn := RX8) (Tn := TX8) (Nn := 28) (kk := 9) ho (by decide) (zent_7 ho) rfl zin7 (by decide) zfl_X8_26 rfl hd k
theorem zg_X8_29 (C : zC G X cc RX8 h nL) (ho : zkd o = 7) (hd : decode cc pc = .ok (.getfield 29, 3)) (k : zV G X M lv (zR G 54 :: rest) (pc + 3)) : zV G X M lv (zR G o :: rest) pc := zr_get C (Cn := RX8) (Tn := TX8) (Nn := 28) (kk := 10) ho (by decide) (zent_7 ho) rfl zin7 (by decide) zfl_X8_29 rfl hd k
theorem zg_X8_32 (C : zC G X cc RX8 h nL) (ho : zkd o = 7) (hd : decode cc pc = .ok (.getfield 32, 3)) (k : zV G X M lv (zR G 55 :: rest) (pc + 3)) : zV G X M lv (zR G o :: rest) pc := zr_get C (Cn := RX8) (Tn := TX8) (Nn := 28) (kk := 13) ho (by decide) (zent_7 ho) rfl zin7 (by decide) zfl_X8_32 rfl hd k
theorem zg_X8_35 (C : zC G X cc RX8 h nL) (ho : zkd o = 7) (hd : decode cc pc = .ok (.getfield 35, 3)) (k : zV G X M lv (zR G 56 :: rest) (pc + 3)) : zV G X M lv (zR G o :: rest) pc := zr_get C (Cn := RX8) (Tn := TX8) (Nn := 28) (kk := 17) ho (by decide) (zent_7 ho) rfl zin7 (by decide) zfl_X8_35 rfl hd k
theorem zg_X8_38 (C : zC G X cc RX8 h nL) (ho : zkd o = 7) (hd : decode cc pc = .ok (.getfield 38, 3)) (k : zV G X M lv (zR G 57 :: rest) (pc + 3)) : zV G X M lv (zR G o :: rest) pc := zr_get C (Cn := RX8) (Tn := TX8) (Nn := 28) (kk := 20) ho (by decide) (zent_7 ho) rfl zin7 (by decide) zfl_X8_38 rfl hd k
theorem zg_X8_41 (C : zC G X cc RX8 h nL) (ho : zkd o = 7) (hd : decode cc pc = .ok (.getfield 41, 3)) (k : zV G X M lv (zR G 58 :: rest) (pc + 3)) : zV G X M lv (zR G o :: rest) pc := zr_get C (Cn := RX8) (Tn := TX8) (Nn := 28) (kk := 21) ho (by decide) (zent_7 ho) rfl zin7 (by decide) zfl_X8_41 rfl hd k
theorem zg_X8_44 (C : zC G X cc RX8 h nL) (ho : zkd o = 7) (hd : decode cc pc = .ok (.getfield 44, 3)) (k : zV G X M lv (zR G 59 :: rest) (pc + 3)) : zV G X M lv (zR G o :: rest) pc := zr_get C (Cn := RX8) (Tn := TX8) (Nn := 28) (kk := 22) ho (by decide) (zent_7 ho) rfl zin7 (by decide) zfl_X8_44 rfl hd k
theorem zg_X8_47 (C : zC G X cc RX8 h nL) (ho : zkd o = 7) (hd : decode cc pc = .ok (.getfield 47, 3)) (k : zV G X M lv (zR G 60 :: rest) (pc + 3)) : zV G X M lv (zR G o :: rest) pc := zr_get C (Cn := RX8) (Tn := TX8) (Nn := 28) (kk := 23) ho (by decide) (zent_7 ho) rfl zin7 (by decide) zfl_X8_47 rfl hd k
theorem zg_X8_50 (C : zC G X cc RX8 h nL) (ho : zkd o = 7) (hd : decode cc pc = .ok (.getfield 50, 3)) (k : zV G X M lv (zR G 61 :: rest) (pc + 3)) : zV G X M lv (zR G o :: rest) pc := zr_get C (Cn := RX8) (Tn := TX8) (Nn := 28) (kk := 25) ho (by decide) (zent_7 ho) rfl zin7 (by decide) zfl_X8_50 rfl hd k
theorem zg_X8_53 (C : zC G X cc RX8 h nL) (ho : zkd o = 7) (hd : decode cc pc = .ok (.getfield 53, 3)) (k : zV G X M lv (zR G 62 :: rest) (pc + 3)) : zV G X M lv (zR G o :: rest) pc := zr_get C (Cn := RX8) (Tn := TX8) (Nn := 28) (kk := 26) ho (by decide) (zent_7 ho) rfl zin7 (by decide) zfl_X8_53 rfl hd k
theorem zg_X8_56 (C : zC G X cc RX8 h nL) (ho : zkd o = 7) (hd : decode cc pc = .ok (.getfield 56, 3)) (k : zV G X M lv (.int (M.1 o 1) :: rest) (pc + 3)) : zV G X M lv (zR G o :: rest) pc := zr_get C (Cn := RX8) (Tn := TX8) (Nn := 28) (kk := 1) ho (by decide) (zent_7 ho) rfl zin7 (by decide) zfl_X8_56 rfl hd k
theorem zg_X8_67 (C : zC G X cc RX8 h nL) (ho : zkd o = 7) (hd : decode cc pc = .ok (.getfield 67, 3)) (k : zV G X M lv (.int (M.1 o 12) :: rest) (pc + 3)) : zV G X M lv (zR G o :: rest) pc := zr_get C (Cn := RX8) (Tn := TX8) (Nn := 28) (kk := 12) ho (by decide) (zent_7 ho) rfl zin7 (by decide) zfl_X8_67 rfl hd k
theorem zg_X8_70 (C : zC G X cc RX8 h nL) (ho : zkd o = 7) (hd : decode cc pc = .ok (.getfield 70, 3)) (k : zV G X M lv (.int (M.1 o 14) :: rest) (pc + 3)) : zV G X M lv (zR G o :: rest) pc := zr_get C (Cn := RX8) (Tn := TX8) (Nn := 28) (kk := 14) ho (by decide) (zent_7 ho) rfl zin7 (by decide) zfl_X8_70 rfl hd k
theorem zg_X8_73 (C : zC G X cc RX8 h nL) (ho : zkd o = 7) (hd : decode cc pc = .ok (.getfield 73, 3)) (k : zV G X M lv (.int (M.1 o 15) :: rest) (pc + 3)) : zV G X M lv (zR G o :: rest) pc := zr_get C (Cn := RX8) (Tn := TX8) (Nn := 28) (kk := 15) ho (by decide) (zent_7 ho) rfl zin7 (by decide) zfl_X8_73 rfl hd k
theorem zg_X8_76 (C : zC G X cc RX8 h nL) (ho : zkd o = 7) (hd : decode cc pc = .ok (.getfield 76, 3)) (k : zV G X M lv (.int (M.1 o 16) :: rest) (pc + 3)) : zV G X M lv (zR G o :: rest) pc := zr_get C (Cn := RX8) (Tn := TX8) (Nn := 28) (kk := 16) ho (by decide) (zent_7 ho) rfl zin7 (by decide) zfl_X8_76 rfl hd k
theorem zg_X8_83 (C : zC G X cc RX8 h nL) (ho : zkd o = 7) (hd : decode cc pc = .ok (.getfield 83, 3)) (k : zV G X M lv (.int (M.1 o 18) :: rest) (pc + 3)) : zV G X M lv (zR G o :: rest) pc := zr_get C (Cn := RX8) (Tn := TX8) (Nn := 28) (kk := 18) ho (by decide) (zent_7 ho) rfl zin7 (by decide) zfl_X8_83 rfl hd k
theorem zg_X8_93 (C : zC G X cc RX8 h nL) (ho : zkd o = 7) (hd : decode cc pc = .ok (.getfield 93, 3)) (k : zV G X M lv (.int (M.1 o 11) :: rest) (pc + 3)) : zV G X M lv (zR G o :: rest) pc := zr_get C (Cn := RX8) (Tn := TX8) (Nn := 28) (kk := 11) ho (by decide) (zent_7 ho) rfl zin7 (by decide) zfl_X8_93 rfl hd k
theorem zg_X8_97 (C : zC G X cc RX8 h nL) (ho : zkd o = 7) (hd : decode cc pc = .ok (.getfield 97, 3)) (k : zV G X M lv (.int (M.1 o 4) :: rest) (pc + 3)) : zV G X M lv (zR G o :: rest) pc := zr_get C (Cn := RX8) (Tn := TX8) (Nn := 28) (kk := 4) ho (by decide) (zent_7 ho) rfl zin7 (by decide) zfl_X8_97 rfl hd k
theorem zg_X8_100 (C : zC G X cc RX8 h nL) (ho : zkd o = 7) (hd : decode cc pc = .ok (.getfield 100, 3)) (k : zV G X M lv (.int (M.1 o 7) :: rest) (pc + 3)) : zV G X M lv (zR G o :: rest) pc := zr_get C (Cn := RX8) (Tn := TX8) (Nn := 28) (kk := 7) ho (by decide) (zent_7 ho) rfl zin7 (by decide) zfl_X8_100 rfl hd k
theorem zg_X8_195 (C : zC G X cc RX8 h nL) (ho : zkd o = 7) (hd : decode cc pc = .ok (.getfield 195, 3)) (k : zV G X M lv (.int (M.1 o 27) :: rest) (pc + 3)) : zV G X M lv (zR G o :: rest) pc := zr_get C (Cn := RX8) (Tn := TX8) (Nn := 28) (kk := 27) ho (by decide) (zent_7 ho) rfl zin7 (by decide) zfl_X8_195 rfl hd k
theorem zg_X8_202 (C : zC G X cc RX8 h nL) (ho : zkd o = 7) (hd : decode cc pc = .ok (.getfield 202, 3)) (k : zV G X M lv (.int (M.1 o 19) :: rest) (pc + 3)) : zV G X M lv (zR G o :: rest) pc := zr_get C (Cn := RX8) (Tn := TX8) (Nn := 28) (kk := 19) ho (by decide) (zent_7 ho) rfl zin7 (by decide) zfl_X8_202 rfl hd k
theorem zg_X8_208 (C : zC G X cc RX8 h nL) (ho : zkd o = 7) (hd : decode cc pc = .ok (.getfield 208, 3)) (k : zV G X M lv (.int (M.1 o 24) :: rest) (pc + 3)) : zV G X M lv (zR G o :: rest) pc := zr_get C (Cn := RX8) (Tn := TX8) (Nn := 28) (kk := 24) ho (by decide) (zent_7 ho) rfl zin7 (by decide) zfl_X8_208 rfl hd k
theorem zp_X1_18 {v : Int32} (C : zC G X cc RX1 h nL) (ho : zkd o = 1) (hd : decode cc pc = .ok (.putfield 18, 3)) (k : zV G X (zwI M o 2 v) lv rest (pc + 3)) : zV G X M lv (.int v :: zR G o :: rest) pc := zr_put C (Cn := RX1) (Tn := TX1) (Nn := 3) (kk := 2) (ty := .int) ho (by decide) (zent_1 ho) rfl zin1 tyX1 tyX1_ok nmX1 (by decide) zfl_X1_18 rfl (by decide +kernel) rfl rfl (Nat.le_of_ble_eq_true rfl) (zput_1_2 ho) hd k
theorem zp_X3_28 {v : Int32} (C : zC G X cc RX3 h nL) (ho : zkd o = 3) (hd : decode cc pc = .ok (.putfield 28, 3)) (k : zV G X (zwI M o 5 v) lv rest (pc + 3)) : zV G X M lv (.int v :: zR G o :: rest) pc := zr_put C (Cn := RX3) (Tn := TX3) (Nn := 13) (kk := 5) (ty := .int) ho (by decide) (zent_3 ho) rfl zin3 tyX3 tyX3_ok nmX3 (by decide) zfl_X3_28 rfl (by decide +kernel) rfl rfl (Nat.le_of_ble_eq_true rfl) (zput_3_5 ho) hd k
theorem zp_X3_32 {v : Int32} (C : zC G X cc RX3 h nL) (ho : zkd o = 3) (hd : decode cc pc = .ok (.putfield 32, 3)) (k : zV G X (zwI M o 6 v) lv rest (pc + 3)) : zV G X M lv (.int v :: zR G o :: rest) pc := zr_put C (Cn := RX3) (Tn := TX3) (Nn := 13) (kk := 6) (ty := .int) ho (by decide) (zent_3 ho) rfl zin3 tyX3 tyX3_ok nmX3 (by decide) zfl_X3_32 rfl (by decide +kernel) rfl rfl (Nat.le_of_ble_eq_true rfl) (zput_3_6 ho) hd k
theorem zp_X3_35 {v : Int32} (C : zC G X cc RX3 h nL) (ho : zkd o = 3) (hd : decode cc pc = .ok (.putfield 35, 3)) (k : zV G X (zwI M o 7 v) lv rest (pc + 3)) : zV G X M lv (.int v :: zR G o :: rest) pc := zr_put C (Cn := RX3) (Tn := TX3) (Nn := 13) (kk := 7) (ty := .int) ho (by decide) (zent_3 ho) rfl zin3 tyX3 tyX3_ok nmX3 (by decide) zfl_X3_35 rfl (by decide +kernel) rfl rfl (Nat.le_of_ble_eq_true rfl) (zput_3_7 ho) hd k
theorem zp_X3_44 {v : Int32} (C : zC G X cc RX3 h nL) (ho : zkd o = 3) (hd : decode cc pc = .ok (.putfield 44, 3)) (k : zV G X (zwI M o 10 v) lv rest (pc + 3)) : zV G X M lv (.int v :: zR G o :: rest) pc := zr_put C (Cn := RX3) (Tn := TX3) (Nn := 13) (kk := 10) (ty := .int) ho (by decide) (zent_3 ho) rfl zin3 tyX3 tyX3_ok nmX3 (by decide) zfl_X3_44 rfl (by decide +kernel) rfl rfl (Nat.le_of_ble_eq_true rfl) (zput_3_10 ho) hd k
theorem zp_X3_47 {v : Int32} (C : zC G X cc RX3 h nL) (ho : zkd o = 3) (hd : decode cc pc = .ok (.putfield 47, 3)) (k : zV G X (zwI M o 11 v) lv rest (pc + 3)) : zV G X M lv (.int v :: zR G o :: rest) pc := zr_put C (Cn := RX3) (Tn := TX3) (Nn := 13) (kk := 11) (ty := .int) ho (by decide) (zent_3 ho) rfl zin3 tyX3 tyX3_ok nmX3 (by decide) zfl_X3_47 rfl (by decide +kernel) rfl rfl (Nat.le_of_ble_eq_true rfl) (zput_3_11 ho) hd k
theorem zp_X5_15 {v : Int32} (C : zC G X cc RX5 h nL) (ho : zkd o = 4) (hd : decode cc pc = .ok (.putfield 15, 3)) (k : zV G X (zwI M o 1 v) lv rest (pc + 3)) : zV G X M lv (.int v :: zR G o :: rest) pc := zr_put C (Cn := RX5) (Tn := TX5) (Nn := 6) (kk := 1) (ty := .int) ho (by decide) (zent_4 ho) rfl zin4 tyX5 tyX5_ok nmX5 (by decide) zfl_X5_15 rfl (by decide +kernel) rfl rfl (Nat.le_of_ble_eq_true rfl) (zput_4_1 ho) hd k
theorem zp_X5_22 {v : Int32} (C : zC G X cc RX5 h nL) (ho : zkd o = 4) (hd : decode cc pc = .ok (.putfield 22, 3)) (k : zV G X (zwI M o 3 v) lv rest (pc + 3)) : zV G X M lv (.int v :: zR G o :: rest) pc := zr_put C (Cn := RX5) (Tn := TX5) (Nn := 6) (kk := 3) (ty := .int) ho (by decide) (zent_4 ho) rfl zin4 tyX5 tyX5_ok nmX5 (by decide) zfl_X5_22 rfl (by decide +kernel) rfl rfl (Nat.le_of_ble_eq_true rfl) (zput_4_3 ho) hd k
theorem zp_X5_25 {v : Int32} (C : zC G X cc RX5 h nL) (ho : zkd o = 4) (hd : decode cc pc = .ok (.putfield 25, 3)) (k : zV G X (zwI M o 4 v) lv rest (pc + 3)) : zV G X M lv (.int v :: zR G o :: rest) pc := zr_put C (Cn := RX5) (Tn := TX5) (Nn := 6) (kk := 4) (ty := .int) ho (by decide) (zent_4 ho) rfl zin4 tyX5 tyX5_ok nmX5 (by decide) zfl_X5_25 rfl (by decide +kernel) rfl rfl (Nat.le_of_ble_eq_true rfl) (zput_4_4 ho) hd k
theorem zp_X5_28 {v : Int32} (C : zC G X cc RX5 h nL) (ho : zkd o = 4) (hz : zb v) (hd : decode cc pc = .ok (.putfield 28, 3)) (k : zV G X (zwI M o 5 v) lv rest (pc + 3)) : zV G X M lv (.int v :: zR G o :: rest) pc := zr_put C (Cn := RX5) (Tn := TX5) (Nn := 6) (kk := 5) (ty := .boolean) ho (by decide) (zent_4 ho) rfl zin4 tyX5 tyX5_ok nmX5 (by decide) zfl_X5_28 rfl (by decide +kernel) hz.1 hz.2 (Nat.le_of_ble_eq_true rfl) (zput_4_5 ho) hd k
theorem zp_X6_18 {v : Int32} (C : zC G X cc RX6 h nL) (ho : zkd o = 5) (hd : decode cc pc = .ok (.putfield 18, 3)) (k : zV G X (zwI M o 2 v) lv rest (pc + 3)) : zV G X M lv (.int v :: zR G o :: rest) pc := zr_put C (Cn := RX6) (Tn := TX6) (Nn := 3) (kk := 2) (ty := .int) ho (by decide) (zent_5 ho) rfl zin5 tyX6 tyX6_ok nmX6 (by decide) zfl_X6_18 rfl (by decide +kernel) rfl rfl (Nat.le_of_ble_eq_true rfl) (zput_5_2 ho) hd k
theorem zp_X7_23 {v : Int32} (C : zC G X cc RX7 h nL) (ho : zkd o = 6) (hd : decode cc pc = .ok (.putfield 23, 3)) (k : zV G X (zwI M o 2 v) lv rest (pc + 3)) : zV G X M lv (.int v :: zR G o :: rest) pc := zr_put C (Cn := RX7) (Tn := TX7) (Nn := 7) (kk := 2) (ty := .int) ho (by decide) (zent_6 ho) rfl zin6 tyX7 tyX7_ok nmX7 (by decide) zfl_X7_23 rfl (by decide +kernel) rfl rfl (Nat.le_of_ble_eq_true rfl) (zput_6_2 ho) hd k
theorem zp_X7_80 {v : Int32} (C : zC G X cc RX7 h nL) (ho : zkd o = 1) (hd : decode cc pc = .ok (.putfield 80, 3)) (k : zV G X (zwI M o 2 v) lv rest (pc + 3)) : zV G X M lv (.int v :: zR G o :: rest) pc := zr_putN C (Cn := RX1) (Tn := TX1) (Nn := 3) (kk := 2) (ty := .int) ho (by decide) (zent_1 ho) rfl zin1 tyX1 tyX1_ok nmX1 (by decide) zfl_X7_80 rfl (by decide +kernel) rfl rfl (Nat.le_of_ble_eq_true rfl) (zput_1_2 ho) hd k
theorem zp_X7_81 {v : Int32} (C : zC G X cc RX7 h nL) (ho : zkd o = 5) (hd : decode cc pc = .ok (.putfield 81, 3)) (k : zV G X (zwI M o 2 v) lv rest (pc + 3)) : zV G X M lv (.int v :: zR G o :: rest) pc := zr_putN C (Cn := RX6) (Tn := TX6) (Nn := 3) (kk := 2) (ty := .int) ho (by decide) (zent_5 ho) rfl zin5 tyX6 tyX6_ok nmX6 (by decide) zfl_X7_81 rfl (by decide +kernel) rfl rfl (Nat.le_of_ble_eq_true rfl) (zput_5_2 ho) hd k
theorem zp_X8_56 {v : Int32} (C : zC G X cc RX8 h nL) (ho : zkd o = 7) (hd : decode cc pc = .ok (.putfield 56, 3)) (k : zV G X (zwI M o 1 v) lv rest (pc + 3)) : zV G X M lv (.int v :: zR G o :: rest) pc := zr_put C (Cn := RX8) (Tn := TX8) (Nn := 28) (kk := 1) (ty := .int) ho (by decide) (zent_7 ho) rfl zin7 tyX8 tyX8_ok nmX8 (by decide) zfl_X8_56 rfl (by decide +kernel) rfl rfl (Nat.le_of_ble_eq_true rfl) (zput_7_1 ho) hd k
theorem zp_X8_60 {v : Int32} (C : zC G X cc RX8 h nL) (ho : zkd o = 7) (hd : decode cc pc = .ok (.putfield 60, 3)) (k : zV G X (zwI M o 0 v) lv rest (pc + 3)) : zV G X M lv (.int v :: zR G o :: rest) pc := zr_put C (Cn := RX8) (Tn := TX8) (Nn := 28) (kk := 0) (ty := .int) ho (by decide) (zent_7 ho) rfl zin7 tyX8 tyX8_ok nmX8 (by decide) zfl_X8_60 rfl (by decide +kernel) rfl rfl (Nat.le_of_ble_eq_true rfl) (zput_7_0 ho) hd k
theorem zp_X8_67 {v : Int32} (C : zC G X cc RX8 h nL) (ho : zkd o = 7) (hd : decode cc pc = .ok (.putfield 67, 3)) (k : zV G X (zwI M o 12 v) lv rest (pc + 3)) : zV G X M lv (.int v :: zR G o :: rest) pc := zr_put C (Cn := RX8) (Tn := TX8) (Nn := 28) (kk := 12) (ty := .int) ho (by decide) (zent_7 ho) rfl zin7 tyX8 tyX8_ok nmX8 (by decide) zfl_X8_67 rfl (by decide +kernel) rfl rfl (Nat.le_of_ble_eq_true rfl) (zput_7_12 ho) hd k
theorem zp_X8_70 {v : Int32} (C : zC G X cc RX8 h nL) (ho : zkd o = 7) (hd : decode cc pc = .ok (.putfield 70, 3)) (k : zV G X (zwI M o 14 v) lv rest (pc + 3)) : zV G X M lv (.int v :: zR G o :: rest) pc := zr_put C (Cn := RX8) (Tn := TX8) (Nn := 28) (kk := 14) (ty := .int) ho (by decide) (zent_7 ho) rfl zin7 tyX8 tyX8_ok nmX8 (by decide) zfl_X8_70 rfl (by decide +kernel) rfl rfl (Nat.le_of_ble_eq_true rfl) (zput_7_14 ho) hd k
theorem zp_X8_73 {v : Int32} (C : zC G X cc RX8 h nL) (ho : zkd o = 7) (hd : decode cc pc = .ok (.putfield 73, 3)) (k : zV G X (zwI M o 15 v) lv rest (pc + 3)) : zV G X M lv (.int v :: zR G o :: rest) pc := zr_put C (Cn := RX8) (Tn := TX8) (Nn := 28) (kk := 15) (ty := .int) ho (by decide) (zent_7 ho) rfl zin7 tyX8 tyX8_ok nmX8 (by decide) zfl_X8_73 rfl (by decide +kernel) rfl rfl (Nat.le_of_ble_eq_true rfl) (zput_7_15 ho) hd k
theorem zp_X8_76 {v : Int32} (C : zC G X cc RX8 h nL) (ho : zkd o = 7) (hd : decode cc pc = .ok (.putfield 76, 3)) (k : zV G X (zwI M o 16 v) lv rest (pc + 3)) : zV G X M lv (.int v :: zR G o :: rest) pc := zr_put C (Cn := RX8) (Tn := TX8) (Nn := 28) (kk := 16) (ty := .int) ho (by decide) (zent_7 ho) rfl zin7 tyX8 tyX8_ok nmX8 (by decide) zfl_X8_76 rfl (by decide +kernel) rfl rfl (Nat.le_of_ble_eq_true rfl) (zput_7_16 ho) hd k
theorem zp_X8_83 {v : Int32} (C : zC G X cc RX8 h nL) (ho : zkd o = 7) (hd : decode cc pc = .ok (.putfield 83, 3)) (k : zV G X (zwI M o 18 v) lv rest (pc + 3)) : zV G X M lv (.int v :: zR G o :: rest) pc := zr_put C (Cn := RX8) (Tn := TX8) (Nn := 28) (kk := 18) (ty := .int) ho (by decide) (zent_7 ho) rfl zin7 tyX8 tyX8_ok nmX8 (by decide) zfl_X8_83 rfl (by decide +kernel) rfl rfl (Nat.le_of_ble_eq_true rfl) (zput_7_18 ho) hd k
theorem zp_X8_93 {v : Int32} (C : zC G X cc RX8 h nL) (ho : zkd o = 7) (hz : zb v) (hd : decode cc pc = .ok (.putfield 93, 3)) (k : zV G X (zwI M o 11 v) lv rest (pc + 3)) : zV G X M lv (.int v :: zR G o :: rest) pc := zr_put C (Cn := RX8) (Tn := TX8) (Nn := 28) (kk := 11) (ty := .boolean) ho (by decide) (zent_7 ho) rfl zin7 tyX8 tyX8_ok nmX8 (by decide) zfl_X8_93 rfl (by decide +kernel) hz.1 hz.2 (Nat.le_of_ble_eq_true rfl) (zput_7_11 ho) hd k
theorem zp_X8_97 {v : Int32} (C : zC G X cc RX8 h nL) (ho : zkd o = 7) (hd : decode cc pc = .ok (.putfield 97, 3)) (k : zV G X (zwI M o 4 v) lv rest (pc + 3)) : zV G X M lv (.int v :: zR G o :: rest) pc := zr_put C (Cn := RX8) (Tn := TX8) (Nn := 28) (kk := 4) (ty := .int) ho (by decide) (zent_7 ho) rfl zin7 tyX8 tyX8_ok nmX8 (by decide) zfl_X8_97 rfl (by decide +kernel) rfl rfl (Nat.le_of_ble_eq_true rfl) (zput_7_4 ho) hd k
theorem zp_X8_100 {v : Int32} (C : zC G X cc RX8 h nL) (ho : zkd o = 7) (hd : decode cc pc = .ok (.putfield 100, 3)) (k : zV G X (zwI M o 7 v) lv rest (pc + 3)) : zV G X M lv (.int v :: zR G o :: rest) pc := zr_put C (Cn := RX8) (Tn := TX8) (Nn := 28) (kk := 7) (ty := .int) ho (by decide) (zent_7 ho) rfl zin7 tyX8 tyX8_ok nmX8 (by decide) zfl_X8_100 rfl (by decide +kernel) rfl rfl (Nat.le_of_ble_eq_true rfl) (zput_7_7 ho) hd k
theorem zp_X8_195 {v : Int32} (C : zC G X cc RX8 h nL) (ho : zkd o = 7) (hd : decode cc pc = .ok (.putfield 195, 3)) (k : zV G X (zwI M o 27 v) lv rest (pc + 3)) : zV G X M lv (.int v :: zR G o :: rest) pc := zr_put C (Cn := RX8) (Tn := TX8) (Nn := 28) (kk := 27) (ty := .int) ho (by decide) (zent_7 ho) rfl zin7 tyX8 tyX8_ok nmX8 (by decide) zfl_X8_195 rfl (by decide +kernel) rfl rfl (Nat.le_of_ble_eq_true rfl) (zput_7_27 ho) hd k
theorem zp_X8_202 {v : Int32} (C : zC G X cc RX8 h nL) (ho : zkd o = 7) (hd : decode cc pc = .ok (.putfield 202, 3)) (k : zV G X (zwI M o 19 v) lv rest (pc + 3)) : zV G X M lv (.int v :: zR G o :: rest) pc := zr_put C (Cn := RX8) (Tn := TX8) (Nn := 28) (kk := 19) (ty := .int) ho (by decide) (zent_7 ho) rfl zin7 tyX8 tyX8_ok nmX8 (by decide) zfl_X8_202 rfl (by decide +kernel) rfl rfl (Nat.le_of_ble_eq_true rfl) (zput_7_19 ho) hd k
theorem zp_X8_208 {v : Int32} (C : zC G X cc RX8 h nL) (ho : zkd o = 7) (hd : decode cc pc = .ok (.putfield 208, 3)) (k : zV G X (zwI M o 24 v) lv rest (pc + 3)) : zV G X M lv (.int v :: zR G o :: rest) pc := zr_put C (Cn := RX8) (Tn := TX8) (Nn := 28) (kk := 24) (ty := .int) ho (by decide) (zent_7 ho) rfl zin7 tyX8 tyX8_ok nmX8 (by decide) zfl_X8_208 rfl (by decide +kernel) rfl rfl (Nat.le_of_ble_eq_true rfl) (zput_7_24 ho) hd k
end ZF
