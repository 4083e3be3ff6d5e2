/-! X4_wayOfTurn -/
set_option maxHeartbeats 4000000 in
set_option maxRecDepth 100000 in
theorem w_X4_wayOfTurn_b31 {G : zG} {X : zX} (C : zC G X cX4_wayOfTurn RX4 2 7) (N : Nat) (Q : Int32 → zMem → Prop) (R : zRI G X cX4_wayOfTurn Q) (a0 : Nat) (ha0 : zkd a0 = 0) (x1 : Int32) (a2 : Nat) (ha2 : zkd a2 = 0) (x3 : Int32) (x4 : Int32) (x5 : Int32) (k17 : Int32 → zMem → Prop) (hk17 : ∀ (z5 : Int32) (M : zMem), k17 z5 M → zV G X M [(0, zR G a0), (1, .int x1), (2, zR G a2), (3, .int x3), (4, .int x4), (5, .int z5)] [] 17) (k31 : Int32 → zMem → Prop) (hk31 : ∀ (z6 : Int32) (M : zMem), k31 z6 M → zV G X M [(0, zR G a0), (1, .int x1), (2, zR G a2), (3, .int x3), (4, .int x4), (5, .int x5), (6, .int z6)] [] 31) (x6 : Int32) (M : zMem) (h : f_X4_wayOfTurn_b31 N k17 k31 a0 x1 a2 x3 x4 x5 x6 M Q) : zV G X M [(0, zR G a0), (1, .int x1), (2, zR G a2), (3, .int x3), (4, .int x4), (5, .int x5), (6, .int x6)] [] 31 := by
  unfold f_X4_wayOfTurn_b31 at h
  refine zr_iload C 6 dX4_wayOfTurn_31 rfl ?_
  refine zr_iconst C (v := 3) dX4_wayOfTurn_33 (by decide) ?_
  refine zr_icmp_ge C 64 dX4_wayOfTurn_34 (by decide) (fun c => ?_) (fun c => ?_)
  · have h := h.1 c
    obtain ⟨v5, hv5⟩ : ∃ y : Int32, y = x5 + (1 : Int32) := ⟨_, rfl⟩
    have h := h v5 hv5
    refine zr_iinc C 5 [1, 2, 3, 4, 5, 0] dX4_wayOfTurn_64 rfl (by rw [hv5]; rfl) (by decide) rfl (lv' := [(0, zR G a0), (1, .int x1), (2, zR G a2), (3, .int x3), (4, .int x4), (5, .int v5)]) ?_
    refine zr_goto C 17 dX4_wayOfTurn_67 (by decide) ?_
    exact hk17 _ _ h
  · have h := h.2 c
    refine zr_aload_n C 0 dX4_wayOfTurn_37 rfl rfl ?_
    refine zr_iload_n C 1 dX4_wayOfTurn_38 rfl rfl ?_
    refine zr_iload C 5 dX4_wayOfTurn_39 rfl ?_
    refine zr_aload_n C 2 dX4_wayOfTurn_41 rfl rfl ?_
    refine zr_iload_n C 3 dX4_wayOfTurn_42 rfl rfl ?_
    refine zr_iload C 6 dX4_wayOfTurn_43 rfl ?_
    refine zcL (zrunS C (rest := []) (c_X4_crossOfSteps X.2.1 G N _ ha0 _ _ _ ha2 _ _ _ _ h) zk_X4_crossOfSteps zl_X4_51 (by decide) (by decide) rfl (Nat.le_of_ble_eq_true rfl) rfl dX4_wayOfTurn_45) (fun r6 M7 h => ?_)
    refine zcI (zrunS C (rest := []) (c_X4_sign X.2.1 G N _ _ _ h) zk_X4_sign zl_X4_55 (by decide) (by decide) rfl (Nat.le_of_ble_eq_true rfl) rfl dX4_wayOfTurn_48) (fun r8 M9 h => ?_)
    refine zr_iload C 4 dX4_wayOfTurn_51 rfl ?_
    refine zr_icmp_eq C 58 dX4_wayOfTurn_53 (by decide) (fun c => ?_) (fun c => ?_)
    · have h := h.1 c
      obtain ⟨v10, hv10⟩ : ∃ y : Int32, y = x6 + (1 : Int32) := ⟨_, rfl⟩
      have h := h v10 hv10
      refine zr_iinc C 6 [1, 2, 3, 4, 5, 6, 0] dX4_wayOfTurn_58 rfl (by rw [hv10]; rfl) (by decide) rfl (lv' := [(0, zR G a0), (1, .int x1), (2, zR G a2), (3, .int x3), (4, .int x4), (5, .int x5), (6, .int v10)]) ?_
      refine zr_goto C 31 dX4_wayOfTurn_61 (by decide) ?_
      exact hk31 _ _ h
    · have h := h.2 c
      refine zr_iconst C (v := 0) dX4_wayOfTurn_56 (by decide) ?_
      exact R _ _ _ _ h dX4_wayOfTurn_57
theorem w_X4_wayOfTurn_l31 {G : zG} {X : zX} (C : zC G X cX4_wayOfTurn RX4 2 7) (N : Nat) (Q : Int32 → zMem → Prop) (R : zRI G X cX4_wayOfTurn Q) (a0 : Nat) (ha0 : zkd a0 = 0) (x1 : Int32) (a2 : Nat) (ha2 : zkd a2 = 0) (x3 : Int32) (x4 : Int32) (x5 : Int32) (k17 : Int32 → zMem → Prop) (hk17 : ∀ (z5 : Int32) (M : zMem), k17 z5 M → zV G X M [(0, zR G a0), (1, .int x1), (2, zR G a2), (3, .int x3), (4, .int x4), (5, .int z5)] [] 17) : ∀ (n : Nat) (x6 : Int32) (M : zMem), f_X4_wayOfTurn_l31 N k17 a0 x1 a2 x3 x4 x5 Q n x6 M → zV G X M [(0, zR G a0), (1, .int x1), (2, zR G a2), (3, .int x3), (4, .int x4), (5, .int x5), (6, .int x6)] [] 31 := by
  intro n
  induction n with
  | zero => intro x6 M h; exact h.elim
  | succ n ih =>
    intro x6 M h
    exact w_X4_wayOfTurn_b31 C N Q R a0 ha0 x1 a2 ha2 x3 x4 x5 k17 hk17 _ ih x6 M h
set_option maxHeartbeats 4000000 in
set_option maxRecDepth 100000 in
theorem w_X4_wayOfTurn_b17 {G : zG} {X : zX} (C : zC G X cX4_wayOfTurn RX4 2 7) (N : Nat) (Q : Int32 → zMem → Prop) (R : zRI G X cX4_wayOfTurn Q) (a0 : Nat) (ha0 : zkd a0 = 0) (x1 : Int32) (a2 : Nat) (ha2 : zkd a2 = 0) (x3 : Int32) (x4 : Int32) (k17 : Int32 → zMem → Prop) (hk17 : ∀ (z5 : Int32) (M : zMem), k17 z5 M → zV G X M [(0, zR G a0), (1, .int x1), (2, zR G a2), (3, .int x3), (4, .int x4), (5, .int z5)] [] 17) (x5 : Int32) (M : zMem) (h : f_X4_wayOfTurn_b17 N k17 a0 x1 a2 x3 x4 x5 M Q) : zV G X M [(0, zR G a0), (1, .int x1), (2, zR G a2), (3, .int x3), (4, .int x4), (5, .int x5)] [] 17 := by
  unfold f_X4_wayOfTurn_b17 at h
  refine zr_iload C 5 dX4_wayOfTurn_17 rfl ?_
  refine zr_iconst C (v := 3) dX4_wayOfTurn_19 (by decide) ?_
  refine zr_icmp_ge C 70 dX4_wayOfTurn_20 (by decide) (fun c => ?_) (fun c => ?_)
  · have h := h.1 c
    refine zr_iload C 4 dX4_wayOfTurn_70 rfl ?_
    exact R _ _ _ _ h dX4_wayOfTurn_72
  · have h := h.2 c
    refine zr_iload C 4 dX4_wayOfTurn_23 rfl ?_
    refine zr_if_eq C 70 dX4_wayOfTurn_25 (by decide) (fun c => ?_) (fun c => ?_)
    · have h := h.1 c
      refine zr_iload C 4 dX4_wayOfTurn_70 rfl ?_
      exact R _ _ _ _ h dX4_wayOfTurn_72
    · have h := h.2 c
      refine zr_iconst C (v := 0) dX4_wayOfTurn_28 (by decide) ?_
      refine zr_istore C [1, 2, 3, 4, 5, 6, 0] dX4_wayOfTurn_29 (by decide) rfl (lv' := [(0, zR G a0), (1, .int x1), (2, zR G a2), (3, .int x3), (4, .int x4), (5, .int x5), (6, .int (0 : Int32))]) ?_
      exact w_X4_wayOfTurn_l31 C N Q R _ ha0 _ _ ha2 _ _ _ _ hk17 N _ _ h
theorem w_X4_wayOfTurn_l17 {G : zG} {X : zX} (C : zC G X cX4_wayOfTurn RX4 2 7) (N : Nat) (Q : Int32 → zMem → Prop) (R : zRI G X cX4_wayOfTurn Q) (a0 : Nat) (ha0 : zkd a0 = 0) (x1 : Int32) (a2 : Nat) (ha2 : zkd a2 = 0) (x3 : Int32) (x4 : Int32) : ∀ (n : Nat) (x5 : Int32) (M : zMem), f_X4_wayOfTurn_l17 N a0 x1 a2 x3 x4 Q n x5 M → zV G X M [(0, zR G a0), (1, .int x1), (2, zR G a2), (3, .int x3), (4, .int x4), (5, .int x5)] [] 17 := by
  intro n
  induction n with
  | zero => intro x5 M h; exact h.elim
  | succ n ih =>
    intro x5 M h
    exact w_X4_wayOfTurn_b17 C N Q R a0 ha0 x1 a2 ha2 x3 x4  _ ih x5 M h
set_option maxHeartbeats 4000000 in
set_option maxRecDepth 100000 in
theorem c_X4_wayOfTurn (l : Launch) (G : zG) (N : Nat) (a0 : Nat) (ha0 : zkd a0 = 0) (x1 : Int32) (a2 : Nat) (ha2 : zkd a2 = 0) (x3 : Int32) (M : zMem) (Q : Int32 → zMem → Prop) (h : f_X4_wayOfTurn N a0 x1 a2 x3 M Q) : zMI l G yX4_wayOfTurn cX4_wayOfTurn 7 .int 2 [zR G a0, .int x1, zR G a2, .int x3] M Q := by
  refine zEI (by decide) (Nat.le_of_ble_eq_true rfl) (lv := [(0, zR G a0), (1, .int x1), (2, zR G a2), (3, .int x3)]) rfl (fun X C R => ?_)
  have C : zC G X cX4_wayOfTurn RX4 2 7 := C
  unfold f_X4_wayOfTurn at h
  refine zr_aload_n C 0 dX4_wayOfTurn_0 rfl rfl ?_
  refine zr_iload_n C 1 dX4_wayOfTurn_1 rfl rfl ?_
  refine zr_iconst C (v := 0) dX4_wayOfTurn_2 (by decide) ?_
  refine zr_aload_n C 2 dX4_wayOfTurn_3 rfl rfl ?_
  refine zr_iload_n C 3 dX4_wayOfTurn_4 rfl rfl ?_
  refine zr_iconst C (v := 0) dX4_wayOfTurn_5 (by decide) ?_
  refine zcL (zrunS C (rest := []) (c_X4_crossOfSteps X.2.1 G N _ ha0 _ _ _ ha2 _ _ _ _ h) zk_X4_crossOfSteps zl_X4_51 (by decide) (by decide) rfl (Nat.le_of_ble_eq_true rfl) rfl dX4_wayOfTurn_6) (fun r1 M2 h => ?_)
  refine zcI (zrunS C (rest := []) (c_X4_sign X.2.1 G N _ _ _ h) zk_X4_sign zl_X4_55 (by decide) (by decide) rfl (Nat.le_of_ble_eq_true rfl) rfl dX4_wayOfTurn_9) (fun r3 M4 h => ?_)
  refine zr_istore C [1, 2, 3, 4, 0] dX4_wayOfTurn_12 (by decide) rfl (lv' := [(0, zR G a0), (1, .int x1), (2, zR G a2), (3, .int x3), (4, .int r3)]) ?_
  refine zr_iconst C (v := 0) dX4_wayOfTurn_14 (by decide) ?_
  refine zr_istore C [1, 2, 3, 4, 5, 0] dX4_wayOfTurn_15 (by decide) rfl (lv' := [(0, zR G a0), (1, .int x1), (2, zR G a2), (3, .int x3), (4, .int r3), (5, .int (0 : Int32))]) ?_
  exact w_X4_wayOfTurn_l17 C N Q R _ ha0 _ _ ha2 _ _ N _ _ h
/-! X4_boxesApart -/
set_option maxHeartbeats 4000000 in
set_option maxRecDepth 100000 in
theorem c_X4_boxesApart (l : Launch) (G : zG) (N : Nat) (a0 : Nat) (ha0 : zkd a0 = 0) (x1 : Int32) (a2 : Nat) (ha2 : zkd a2 = 0) (x3 : Int32) (x4 : Int32) (M : zMem) (Q : Int32 → zMem → Prop) (h : f_X4_boxesApart N a0 x1 a2 x3 x4 M Q) : zMI l G yX4_boxesApart cX4_boxesApart 5 .boolean 1 [zR G a0, .int x1, zR G a2, .int x3, .int x4] M Q := by
  refine zEZ (by decide) (Nat.le_of_ble_eq_true rfl) (lv := [(0, zR G a0), (1, .int x1), (2, zR G a2), (3, .int x3), (4, .int x4)]) rfl (fun X C R => ?_)
  have C : zC G X cX4_boxesApart RX4 1 5 := C
  unfold f_X4_boxesApart at h
  refine zr_aload_n C 0 dX4_boxesApart_0 rfl rfl ?_
  refine zr_iload_n C 1 dX4_boxesApart_1 rfl rfl ?_
  refine zr_iload C 4 dX4_boxesApart_2 rfl ?_
  refine zcI (zrunVN C (rest := []) (c_X0_greatest X.2.1 G N _ ha0 _ _ _ _ h) zk_X0_greatest znl_X4_36 (zRc_0 ha0) (by decide) (by decide) rfl (Nat.le_of_ble_eq_true rfl) rfl dX4_boxesApart_4) (fun r1 M2 h => ?_)
  refine zr_aload_n C 2 dX4_boxesApart_7 rfl rfl ?_
  refine zr_iload_n C 3 dX4_boxesApart_8 rfl rfl ?_
  refine zr_iload C 4 dX4_boxesApart_9 rfl ?_
  refine zcI (zrunVN C (rest := [.int r1]) (c_X0_least X.2.1 G N _ ha2 _ _ _ _ h) zk_X0_least znl_X4_40 (zRc_0 ha2) (by decide) (by decide) rfl (Nat.le_of_ble_eq_true rfl) rfl dX4_boxesApart_11) (fun r3 M4 h => ?_)
  refine zr_icmp_lt C 34 dX4_boxesApart_14 (by decide) (fun c => ?_) (fun c => ?_)
  · have h := h.1 c
    refine zr_iconst C (v := 1) dX4_boxesApart_34 (by decide) ?_
    refine zr_goto C 39 dX4_boxesApart_35 (by decide) ?_
    exact R _ _ _ _ zb_1.1 h dX4_boxesApart_39
  · have h := h.2 c
    refine zr_aload_n C 2 dX4_boxesApart_17 rfl rfl ?_
    refine zr_iload_n C 3 dX4_boxesApart_18 rfl rfl ?_
    refine zr_iload C 4 dX4_boxesApart_19 rfl ?_
    refine zcI (zrunVN C (rest := []) (c_X0_greatest X.2.1 G N _ ha2 _ _ _ _ h) zk_X0_greatest znl_X4_36 (zRc_0 ha2) (by decide) (by decide) rfl (Nat.le_of_ble_eq_true rfl) rfl dX4_boxesApart_21) (fun r5 M6 h => ?_)
    refine zr_aload_n C 0 dX4_boxesApart_24 rfl rfl ?_
    refine zr_iload_n C 1 dX4_boxesApart_25 rfl rfl ?_
    refine zr_iload C 4 dX4_boxesApart_26 rfl ?_
    refine zcI (zrunVN C (rest := [.int r5]) (c_X0_least X.2.1 G N _ ha0 _ _ _ _ h) zk_X0_least znl_X4_40 (zRc_0 ha0) (by decide) (by decide) rfl (Nat.le_of_ble_eq_true rfl) rfl dX4_boxesApart_28) (fun r7 M8 h => ?_)
    refine zr_icmp_ge C 38 dX4_boxesApart_31 (by decide) (fun c => ?_) (fun c => ?_)
    · have h := h.1 c
      refine zr_iconst C (v := 0) dX4_boxesApart_38 (by decide) ?_
      exact R _ _ _ _ zb_0.1 h dX4_boxesApart_39
    · have h := h.2 c
      refine zr_iconst C (v := 1) dX4_boxesApart_34 (by decide) ?_
      refine zr_goto C 39 dX4_boxesApart_35 (by decide) ?_
      exact R _ _ _ _ zb_1.1 h dX4_boxesApart_39
/-! X4_clears -/
set_option maxHeartbeats 4000000 in
set_option maxRecDepth 100000 in
theorem w_X4_clears_b56 {G : zG} {X : zX} (C : zC G X cX4_clears RX4 1 6) (N : Nat) (Q : Int32 → zMem → Prop) (R : zRZ G X cX4_clears Q) (x4 : Int32) (M : zMem) (h : f_X4_clears_b56 N x4 M Q) : zV G X M [(4, .int x4)] [] 56 := by
  unfold f_X4_clears_b56 at h
  refine zr_iload C 0 dX4_clears_56 rfl ?_
  refine zr_if_eq C 65 dX4_clears_58 (by decide) (fun c => ?_) (fun c => ?_)
  · have h := h.1 c
    refine zr_iconst C (v := 0) dX4_clears_65 (by decide) ?_
    exact R _ _ _ _ zb_0.1 h dX4_clears_66
  · have h := h.2 c
    refine zr_iconst C (v := 1) dX4_clears_61 (by decide) ?_
    refine zr_goto C 66 dX4_clears_62 (by decide) ?_
    exact R _ _ _ _ zb_1.1 h dX4_clears_66
set_option maxHeartbeats 4000000 in
set_option maxRecDepth 100000 in
theorem w_X4_clears_b18 {G : zG} {X : zX} (C : zC G X cX4_clears RX4 1 6) (N : Nat) (Q : Int32 → zMem → Prop) (R : zRZ G X cX4_clears Q) (a0 : Nat) (ha0 : zkd a0 = 0) (x1 : Int32) (a2 : Nat) (ha2 : zkd a2 = 0) (x3 : Int32) (x4 : Int32) (k18 : Int32 → zMem → Prop) (hk18 : ∀ (z5 : Int32) (M : zMem), k18 z5 M → zV G X M [(0, zR G a0), (1, .int x1), (2, zR G a2), (3, .int x3), (4, .int x4), (5, .int z5)] [] 18) (x5 : Int32) (M : zMem) (h : f_X4_clears_b18 N k18 a0 x1 a2 x3 x4 x5 M Q) : zV G X M [(0, zR G a0), (1, .int x1), (2, zR G a2), (3, .int x3), (4, .int x4), (5, .int x5)] [] 18 := by
  unfold f_X4_clears_b18 at h
  refine zr_iload C 5 dX4_clears_18 rfl ?_
  refine zr_iconst C (v := 4) dX4_clears_20 (by decide) ?_
  refine zr_icmp_ge C 56 dX4_clears_21 (by decide) (fun c => ?_) (fun c => ?_)
  · have h := h.1 c
    refine zr_sub [4] rfl (lv' := [(4, .int x4)]) ?_
    exact w_X4_clears_b56 C N Q R _ _ h
  · have h := h.2 c
    refine zr_iload C 4 dX4_clears_24 rfl ?_
    refine zr_if_eq C 56 dX4_clears_26 (by decide) (fun c => ?_) (fun c => ?_)
    · have h := h.1 c
      refine zr_sub [4] rfl (lv' := [(4, .int x4)]) ?_
      exact w_X4_clears_b56 C N Q R _ _ h
    · have h := h.2 c
      refine zr_aload_n C 0 dX4_clears_29 rfl rfl ?_
      refine zr_iload_n C 1 dX4_clears_30 rfl rfl ?_
      refine zr_aload_n C 0 dX4_clears_31 rfl rfl ?_
      refine zr_iload_n C 1 dX4_clears_32 rfl rfl ?_
      refine zr_aload_n C 2 dX4_clears_33 rfl rfl ?_
      refine zr_iload_n C 3 dX4_clears_34 rfl rfl ?_
      refine zr_iload C 5 dX4_clears_35 rfl ?_
      refine zcL (zrunS C (rest := [.int x1, zR G a0]) (c_X4_side X.2.1 G N _ ha0 _ _ ha2 _ _ _ _ h) zk_X4_side zl_X4_43 (by decide) (by decide) rfl (Nat.le_of_ble_eq_true rfl) rfl dX4_clears_37) (fun r5 M6 h => ?_)
      refine zcI (zrunS C (rest := []) (c_X4_placeByBand X.2.1 G N _ ha0 _ _ _ _ h) zk_X4_placeByBand zl_X4_47 (by decide) (by decide) rfl (Nat.le_of_ble_eq_true rfl) rfl dX4_clears_40) (fun r7 M8 h => ?_)
      refine zr_iload C 4 dX4_clears_43 rfl ?_
      refine zr_icmp_eq C 50 dX4_clears_45 (by decide) (fun c => ?_) (fun c => ?_)
      · have h := h.1 c
        obtain ⟨v9, hv9⟩ : ∃ y : Int32, y = x5 + (1 : Int32) := ⟨_, rfl⟩
        have h := h v9 hv9
        refine zr_iinc C 5 [1, 2, 3, 4, 5, 0] dX4_clears_50 rfl (by rw [hv9]; rfl) (by decide) rfl (lv' := [(0, zR G a0), (1, .int x1), (2, zR G a2), (3, .int x3), (4, .int x4), (5, .int v9)]) ?_
        refine zr_goto C 18 dX4_clears_53 (by decide) ?_
        exact hk18 _ _ h
      · have h := h.2 c
        refine zr_iconst C (v := 0) dX4_clears_48 (by decide) ?_
        exact R _ _ _ _ zb_0.1 h dX4_clears_49
theorem w_X4_clears_l18 {G : zG} {X : zX} (C : zC G X cX4_clears RX4 1 6) (N : Nat) (Q : Int32 → zMem → Prop) (R : zRZ G X cX4_clears Q) (a0 : Nat) (ha0 : zkd a0 = 0) (x1 : Int32) (a2 : Nat) (ha2 : zkd a2 = 0) (x3 : Int32) (x4 : Int32) : ∀ (n : Nat) (x5 : Int32) (M : zMem), f_X4_clears_l18 N a0 x1 a2 x3 x4 Q n x5 M → zV G X M [(0, zR G a0), (1, .int x1), (2, zR G a2), (3, .int x3), (4, .int x4), (5, .int x5)] [] 18 := by
  intro n
  induction n with
  | zero => intro x5 M h; exact h.elim
  | succ n ih =>
    intro x5 M h
    exact w_X4_clears_b18 C N Q R a0 ha0 x1 a2 ha2 x3 x4  _ ih x5 M h
set_option maxHeartbeats 4000000 in
set_option maxRecDepth 100000 in
theorem c_X4_clears (l : Launch) (G : zG) (N : Nat) (a0 : Nat) (ha0 : zkd a0 = 0) (x1 : Int32) (a2 : Nat) (ha2 : zkd a2 = 0) (x3 : Int32) (M : zMem) (Q : Int32 → zMem → Prop) (h : f_X4_clears N a0 x1 a2 x3 M Q) : zMI l G yX4_clears cX4_clears 6 .boolean 1 [zR G a0, .int x1, zR G a2, .int x3] M Q := by
  refine zEZ (by decide) (Nat.le_of_ble_eq_true rfl) (lv := [(0, zR G a0), (1, .int x1), (2, zR G a2), (3, .int x3)]) rfl (fun X C R => ?_)
  have C : zC G X cX4_clears RX4 1 6 := C
  unfold f_X4_clears at h
  refine zr_aload_n C 0 dX4_clears_0 rfl rfl ?_
  refine zr_iload_n C 1 dX4_clears_1 rfl rfl ?_
  refine zr_aload_n C 0 dX4_clears_2 rfl rfl ?_
  refine zr_iload_n C 1 dX4_clears_3 rfl rfl ?_
  refine zr_aload_n C 2 dX4_clears_4 rfl rfl ?_
  refine zr_iload_n C 3 dX4_clears_5 rfl rfl ?_
  refine zr_iconst C (v := 0) dX4_clears_6 (by decide) ?_
  refine zcL (zrunS C (rest := [.int x1, zR G a0]) (c_X4_side X.2.1 G N _ ha0 _ _ ha2 _ _ _ _ h) zk_X4_side zl_X4_43 (by decide) (by decide) rfl (Nat.le_of_ble_eq_true rfl) rfl dX4_clears_7) (fun r1 M2 h => ?_)
  refine zcI (zrunS C (rest := []) (c_X4_placeByBand X.2.1 G N _ ha0 _ _ _ _ h) zk_X4_placeByBand zl_X4_47 (by decide) (by decide) rfl (Nat.le_of_ble_eq_true rfl) rfl dX4_clears_10) (fun r3 M4 h => ?_)
  refine zr_istore C [1, 2, 3, 4, 0] dX4_clears_13 (by decide) rfl (lv' := [(0, zR G a0), (1, .int x1), (2, zR G a2), (3, .int x3), (4, .int r3)]) ?_
  refine zr_iconst C (v := 1) dX4_clears_15 (by decide) ?_
  refine zr_istore C [1, 2, 3, 4, 5, 0] dX4_clears_16 (by decide) rfl (lv' := [(0, zR G a0), (1, .int x1), (2, zR G a2), (3, .int x3), (4, .int r3), (5, .int (1 : Int32))]) ?_
  exact w_X4_clears_l18 C N Q R _ ha0 _ _ ha2 _ _ N _ _ h
/-! X4_whyApart -/
set_option maxHeartbeats 4000000 in
set_option maxRecDepth 100000 in
theorem c_X4_whyApart (l : Launch) (G : zG) (N : Nat) (a0 : Nat) (ha0 : zkd a0 = 0) (x1 : Int32) (a2 : Nat) (ha2 : zkd a2 = 0) (x3 : Int32) (M : zMem) (Q : Int32 → zMem → Prop) (h : f_X4_whyApart N a0 x1 a2 x3 M Q) : zMI l G yX4_whyApart cX4_whyApart 4 .int 2 [zR G a0, .int x1, zR G a2, .int x3] M Q := by
  refine zEI (by decide) (Nat.le_of_ble_eq_true rfl) (lv := [(0, zR G a0), (1, .int x1), (2, zR G a2), (3, .int x3)]) rfl (fun X C R => ?_)
  have C : zC G X cX4_whyApart RX4 2 4 := C
  unfold f_X4_whyApart at h
  refine zr_aload_n C 0 dX4_whyApart_0 rfl rfl ?_
  refine zr_iload_n C 1 dX4_whyApart_1 rfl rfl ?_
  refine zr_aload_n C 2 dX4_whyApart_2 rfl rfl ?_
  refine zr_iload_n C 3 dX4_whyApart_3 rfl rfl ?_
  refine zr_iconst C (v := 0) dX4_whyApart_4 (by decide) ?_
  refine zcI (zrunS C (rest := []) (c_X4_boxesApart X.2.1 G N _ ha0 _ _ ha2 _ _ _ _ h) zk_X4_boxesApart zl_X4_26 (by decide) (by decide) rfl (Nat.le_of_ble_eq_true rfl) rfl dX4_whyApart_5) (fun r1 M2 h => ?_)
  refine zr_if_ne C 22 dX4_whyApart_8 (by decide) (fun c => ?_) (fun c => ?_)
  · have h := h.1 c
    refine zr_iconst C (v := 1) dX4_whyApart_22 (by decide) ?_
    exact R _ _ _ _ h dX4_whyApart_23
  · have h := h.2 c
    refine zr_aload_n C 0 dX4_whyApart_11 rfl rfl ?_
    refine zr_iload_n C 1 dX4_whyApart_12 rfl rfl ?_
    refine zr_aload_n C 2 dX4_whyApart_13 rfl rfl ?_
    refine zr_iload_n C 3 dX4_whyApart_14 rfl rfl ?_
    refine zr_iconst C (v := 1) dX4_whyApart_15 (by decide) ?_
    refine zcI (zrunS C (rest := []) (c_X4_boxesApart X.2.1 G N _ ha0 _ _ ha2 _ _ _ _ h) zk_X4_boxesApart zl_X4_26 (by decide) (by decide) rfl (Nat.le_of_ble_eq_true rfl) rfl dX4_whyApart_16) (fun r3 M4 h => ?_)
    refine zr_if_eq C 24 dX4_whyApart_19 (by decide) (fun c => ?_) (fun c => ?_)
    · have h := h.1 c
      refine zr_aload_n C 0 dX4_whyApart_24 rfl rfl ?_
      refine zr_iload_n C 1 dX4_whyApart_25 rfl rfl ?_
      refine zr_aload_n C 2 dX4_whyApart_26 rfl rfl ?_
      refine zr_iload_n C 3 dX4_whyApart_27 rfl rfl ?_
      refine zcI (zrunS C (rest := []) (c_X4_clears X.2.1 G N _ ha0 _ _ ha2 _ _ _ h) zk_X4_clears zl_X4_32 (by decide) (by decide) rfl (Nat.le_of_ble_eq_true rfl) rfl dX4_whyApart_28) (fun r5 M6 h => ?_)
      refine zr_if_eq C 36 dX4_whyApart_31 (by decide) (fun c => ?_) (fun c => ?_)
      · have h := h.1 c
        refine zr_aload_n C 2 dX4_whyApart_36 rfl rfl ?_
        refine zr_iload_n C 3 dX4_whyApart_37 rfl rfl ?_
        refine zr_aload_n C 0 dX4_whyApart_38 rfl rfl ?_
        refine zr_iload_n C 1 dX4_whyApart_39 rfl rfl ?_
        refine zcI (zrunS C (rest := []) (c_X4_clears X.2.1 G N _ ha2 _ _ ha0 _ _ _ h) zk_X4_clears zl_X4_32 (by decide) (by decide) rfl (Nat.le_of_ble_eq_true rfl) rfl dX4_whyApart_40) (fun r7 M8 h => ?_)
        refine zr_if_eq C 50 dX4_whyApart_43 (by decide) (fun c => ?_) (fun c => ?_)
        · have h := h.1 c
          refine zr_iconst C (v := 0) dX4_whyApart_50 (by decide) ?_
          exact R _ _ _ _ h dX4_whyApart_51
        · have h := h.2 c
          refine zr_iconst C (v := 3) dX4_whyApart_46 (by decide) ?_
          refine zr_goto C 51 dX4_whyApart_47 (by decide) ?_
          exact R _ _ _ _ h dX4_whyApart_51
      · have h := h.2 c
        refine zr_iconst C (v := 2) dX4_whyApart_34 (by decide) ?_
        exact R _ _ _ _ h dX4_whyApart_35
    · have h := h.2 c
      refine zr_iconst C (v := 1) dX4_whyApart_22 (by decide) ?_
      exact R _ _ _ _ h dX4_whyApart_23
/-! X3_search -/
set_option maxHeartbeats 4000000 in
set_option maxRecDepth 100000 in
theorem w_X3_search_b63 {dd : Nat} {G : zG} {X : zX} (C : zC G X cX3_search RX3 (6 + dd + 1) 10) (N : Nat) (Q : zMem → Prop) (R : zRU G X cX3_search Q) (rec : Nat → Int32 → Nat → Int32 → Int32 → zMem → (zMem → Prop) → Prop) (hrec : ∀ (l : Launch) (y1 : Nat) (hy1 : zkd y1 = 0) (y2 : Int32) (y3 : Nat) (hy3 : zkd y3 = 0) (y4 : Int32) (y5 : Int32) (M : zMem) (Q : zMem → Prop), rec y1 y2 y3 y4 y5 M Q → zMU l G yX3_search cX3_search 10 (6 + dd) [zR G 38, zR G y1, .int y2, zR G y3, .int y4, .int y5] M Q) (x2 : Int32) (x4 : Int32) (x6 : Int32) (x7 : Int32) (M : zMem) (h : f_X3_search_b63 N rec x2 x4 x6 x7 M Q) : zV G X M [(0, zR G 38), (2, .int x2), (4, .int x4), (6, .int x6), (7, .int x7)] [] 63 := by
  unfold f_X3_search_b63 at h
  refine zr_aload_n C 0 dX3_search_63 rfl rfl ?_
  refine zr_iload_n C 1 dX3_search_64 rfl rfl ?_
  refine zr_iload C 2 dX3_search_65 rfl ?_
  refine zr_iload C 3 dX3_search_67 rfl ?_
  refine zr_iload C 4 dX3_search_69 rfl ?_
  refine zcU (zrunV C (rest := []) (c_X3_adds X.2.1 G N _ _ _ _ _ _ h) zk_X3_adds zl_X3_81 (zRc_3 zo_38) (by omega) (by decide) rfl (Nat.le_of_ble_eq_true rfl) rfl dX3_search_71) (fun M8 h => ?_)
  exact R _ _ _ h dX3_search_74
set_option maxHeartbeats 4000000 in
set_option maxRecDepth 100000 in
theorem w_X3_search_b87 {dd : Nat} {G : zG} {X : zX} (C : zC G X cX3_search RX3 (6 + dd + 1) 10) (N : Nat) (Q : zMem → Prop) (R : zRU G X cX3_search Q) (rec : Nat → Int32 → Nat → Int32 → Int32 → zMem → (zMem → Prop) → Prop) (hrec : ∀ (l : Launch) (y1 : Nat) (hy1 : zkd y1 = 0) (y2 : Int32) (y3 : Nat) (hy3 : zkd y3 = 0) (y4 : Int32) (y5 : Int32) (M : zMem) (Q : zMem → Prop), rec y1 y2 y3 y4 y5 M Q → zMU l G yX3_search cX3_search 10 (6 + dd) [zR G 38, zR G y1, .int y2, zR G y3, .int y4, .int y5] M Q) (a1 : Nat) (ha1 : zkd a1 = 0) (x2 : Int32) (a3 : Nat) (ha3 : zkd a3 = 0) (x4 : Int32) (x5 : Int32) (x8 : Int32) (k78 : Int32 → zMem → Prop) (hk78 : ∀ (z8 : Int32) (M : zMem), k78 z8 M → zV G X M [(0, zR G 38), (1, zR G a1), (2, .int x2), (3, zR G a3), (4, .int x4), (5, .int x5), (8, .int z8)] [] 78) (k87 : Int32 → zMem → Prop) (hk87 : ∀ (z9 : Int32) (M : zMem), k87 z9 M → zV G X M [(0, zR G 38), (1, zR G a1), (2, .int x2), (3, zR G a3), (4, .int x4), (5, .int x5), (8, .int x8), (9, .int z9)] [] 87) (x9 : Int32) (M : zMem) (h : f_X3_search_b87 N rec k78 k87 a1 x2 a3 x4 x5 x8 x9 M Q) : zV G X M [(0, zR G 38), (1, zR G a1), (2, .int x2), (3, zR G a3), (4, .int x4), (5, .int x5), (8, .int x8), (9, .int x9)] [] 87 := by
  unfold f_X3_search_b87 at h
  refine zr_iload C 7 dX3_search_87 rfl ?_
  refine zr_iconst C (v := 2) dX3_search_89 (by decide) ?_
  refine zr_icmp_ge C 122 dX3_search_90 (by decide) (fun c => ?_) (fun c => ?_)
  · have h := h.1 c
    obtain ⟨v9, hv9⟩ : ∃ y : Int32, y = x8 + (1 : Int32) := ⟨_, rfl⟩
    have h := h v9 hv9
    refine zr_iinc C 6 [1, 2, 3, 4, 5, 6, 0] dX3_search_122 rfl (by rw [hv9]; rfl) (by decide) rfl (lv' := [(0, zR G 38), (1, zR G a1), (2, .int x2), (3, zR G a3), (4, .int x4), (5, .int x5), (8, .int v9)]) ?_
    refine zr_goto C 78 dX3_search_125 (by decide) ?_
    exact hk78 _ _ h
  · have h := h.2 c
    refine zr_aload_n C 0 dX3_search_93 rfl rfl ?_
    refine zr_aload_n C 1 dX3_search_94 rfl rfl ?_
    refine zr_iconst C (v := 2) dX3_search_95 (by decide) ?_
    refine zr_iload_n C 2 dX3_search_96 rfl rfl ?_
    refine zr_imul C dX3_search_97 ?_
    refine zr_iload C 6 dX3_search_98 rfl ?_
    refine zr_iadd C dX3_search_100 ?_
    refine zr_aload_n C 3 dX3_search_101 rfl rfl ?_
    refine zr_iconst C (v := 2) dX3_search_102 (by decide) ?_
    refine zr_iload C 4 dX3_search_103 rfl ?_
    refine zr_imul C dX3_search_105 ?_
    refine zr_iload C 7 dX3_search_106 rfl ?_
    refine zr_iadd C dX3_search_108 ?_
    refine zr_iload C 5 dX3_search_109 rfl ?_
    refine zr_iconst C (v := 1) dX3_search_111 (by decide) ?_
    refine zr_iadd C dX3_search_112 ?_
    refine zcU (zrunS C (rest := []) (hrec X.2.1 _ ha1 _ _ ha3 _ _ _ _ h) zk_X3_search zl_X3_61 (by omega) (by decide) rfl (Nat.le_of_ble_eq_true rfl) rfl dX3_search_113) (fun M11 h => ?_)
    obtain ⟨v12, hv12⟩ : ∃ y : Int32, y = x9 + (1 : Int32) := ⟨_, rfl⟩
    have h := h v12 hv12
    refine zr_iinc C 7 [1, 2, 3, 4, 5, 6, 7, 0] dX3_search_116 rfl (by rw [hv12]; rfl) (by decide) rfl (lv' := [(0, zR G 38), (1, zR G a1), (2, .int x2), (3, zR G a3), (4, .int x4), (5, .int x5), (8, .int x8), (9, .int v12)]) ?_
    refine zr_goto C 87 dX3_search_119 (by decide) ?_
    exact hk87 _ _ h
theorem w_X3_search_l87 {dd : Nat} {G : zG} {X : zX} (C : zC G X cX3_search RX3 (6 + dd + 1) 10) (N : Nat) (Q : zMem → Prop) (R : zRU G X cX3_search Q) (rec : Nat → Int32 → Nat → Int32 → Int32 → zMem → (zMem → Prop) → Prop) (hrec : ∀ (l : Launch) (y1 : Nat) (hy1 : zkd y1 = 0) (y2 : Int32) (y3 : Nat) (hy3 : zkd y3 = 0) (y4 : Int32) (y5 : Int32) (M : zMem) (Q : zMem → Prop), rec y1 y2 y3 y4 y5 M Q → zMU l G yX3_search cX3_search 10 (6 + dd) [zR G 38, zR G y1, .int y2, zR G y3, .int y4, .int y5] M Q) (a1 : Nat) (ha1 : zkd a1 = 0) (x2 : Int32) (a3 : Nat) (ha3 : zkd a3 = 0) (x4 : Int32) (x5 : Int32) (x8 : Int32) (k78 : Int32 → zMem → Prop) (hk78 : ∀ (z8 : Int32) (M : zMem), k78 z8 M → zV G X M [(0, zR G 38), (1, zR G a1), (2, .int x2), (3, zR G a3), (4, .int x4), (5, .int x5), (8, .int z8)] [] 78) : ∀ (n : Nat) (x9 : Int32) (M : zMem), f_X3_search_l87 N rec k78 a1 x2 a3 x4 x5 x8 Q n x9 M → zV G X M [(0, zR G 38), (1, zR G a1), (2, .int x2), (3, zR G a3), (4, .int x4), (5, .int x5), (8, .int x8), (9, .int x9)] [] 87 := by
  intro n
  induction n with
  | zero => intro x9 M h; exact h.elim
  | succ n ih =>
    intro x9 M h
    exact w_X3_search_b87 C N Q R rec hrec a1 ha1 x2 a3 ha3 x4 x5 x8 k78 hk78 _ ih x9 M h
set_option maxHeartbeats 4000000 in
set_option maxRecDepth 100000 in
theorem w_X3_search_b78 {dd : Nat} {G : zG} {X : zX} (C : zC G X cX3_search RX3 (6 + dd + 1) 10) (N : Nat) (Q : zMem → Prop) (R : zRU G X cX3_search Q) (rec : Nat → Int32 → Nat → Int32 → Int32 → zMem → (zMem → Prop) → Prop) (hrec : ∀ (l : Launch) (y1 : Nat) (hy1 : zkd y1 = 0) (y2 : Int32) (y3 : Nat) (hy3 : zkd y3 = 0) (y4 : Int32) (y5 : Int32) (M : zMem) (Q : zMem → Prop), rec y1 y2 y3 y4 y5 M Q → zMU l G yX3_search cX3_search 10 (6 + dd) [zR G 38, zR G y1, .int y2, zR G y3, .int y4, .int y5] M Q) (a1 : Nat) (ha1 : zkd a1 = 0) (x2 : Int32) (a3 : Nat) (ha3 : zkd a3 = 0) (x4 : Int32) (x5 : Int32) (k78 : Int32 → zMem → Prop) (hk78 : ∀ (z8 : Int32) (M : zMem), k78 z8 M → zV G X M [(0, zR G 38), (1, zR G a1), (2, .int x2), (3, zR G a3), (4, .int x4), (5, .int x5), (8, .int z8)] [] 78) (x8 : Int32) (M : zMem) (h : f_X3_search_b78 N rec k78 a1 x2 a3 x4 x5 x8 M Q) : zV G X M [(0, zR G 38), (1, zR G a1), (2, .int x2), (3, zR G a3), (4, .int x4), (5, .int x5), (8, .int x8)] [] 78 := by
  unfold f_X3_search_b78 at h
  refine zr_iload C 6 dX3_search_78 rfl ?_
  refine zr_iconst C (v := 2) dX3_search_80 (by decide) ?_
  refine zr_icmp_ge C 128 dX3_search_81 (by decide) (fun c => ?_) (fun c => ?_)
  · have h := h.1 c
    exact R _ _ _ h dX3_search_128
  · have h := h.2 c
    refine zr_iconst C (v := 0) dX3_search_84 (by decide) ?_
    refine zr_istore C [1, 2, 3, 4, 5, 6, 7, 0] dX3_search_85 (by decide) rfl (lv' := [(0, zR G 38), (1, zR G a1), (2, .int x2), (3, zR G a3), (4, .int x4), (5, .int x5), (8, .int x8), (9, .int (0 : Int32))]) ?_
    exact w_X3_search_l87 C N Q R _ hrec _ ha1 _ _ ha3 _ _ _ _ hk78 N _ _ h
theorem w_X3_search_l78 {dd : Nat} {G : zG} {X : zX} (C : zC G X cX3_search RX3 (6 + dd + 1) 10) (N : Nat) (Q : zMem → Prop) (R : zRU G X cX3_search Q) (rec : Nat → Int32 → Nat → Int32 → Int32 → zMem → (zMem → Prop) → Prop) (hrec : ∀ (l : Launch) (y1 : Nat) (hy1 : zkd y1 = 0) (y2 : Int32) (y3 : Nat) (hy3 : zkd y3 = 0) (y4 : Int32) (y5 : Int32) (M : zMem) (Q : zMem → Prop), rec y1 y2 y3 y4 y5 M Q → zMU l G yX3_search cX3_search 10 (6 + dd) [zR G 38, zR G y1, .int y2, zR G y3, .int y4, .int y5] M Q) (a1 : Nat) (ha1 : zkd a1 = 0) (x2 : Int32) (a3 : Nat) (ha3 : zkd a3 = 0) (x4 : Int32) (x5 : Int32) : ∀ (n : Nat) (x8 : Int32) (M : zMem), f_X3_search_l78 N rec a1 x2 a3 x4 x5 Q n x8 M → zV G X M [(0, zR G 38), (1, zR G a1), (2, .int x2), (3, zR G a3), (4, .int x4), (5, .int x5), (8, .int x8)] [] 78 := by
  intro n
  induction n with
  | zero => intro x8 M h; exact h.elim
  | succ n ih =>
    intro x8 M h
    exact w_X3_search_b78 C N Q R rec hrec a1 ha1 x2 a3 ha3 x4 x5  _ ih x8 M h
set_option maxHeartbeats 4000000 in
set_option maxRecDepth 100000 in
theorem w_X3_search_b50 {dd : Nat} {G : zG} {X : zX} (C : zC G X cX3_search RX3 (6 + dd + 1) 10) (N : Nat) (Q : zMem → Prop) (R : zRU G X cX3_search Q) (rec : Nat → Int32 → Nat → Int32 → Int32 → zMem → (zMem → Prop) → Prop) (hrec : ∀ (l : Launch) (y1 : Nat) (hy1 : zkd y1 = 0) (y2 : Int32) (y3 : Nat) (hy3 : zkd y3 = 0) (y4 : Int32) (y5 : Int32) (M : zMem) (Q : zMem → Prop), rec y1 y2 y3 y4 y5 M Q → zMU l G yX3_search cX3_search 10 (6 + dd) [zR G 38, zR G y1, .int y2, zR G y3, .int y4, .int y5] M Q) (a1 : Nat) (ha1 : zkd a1 = 0) (x2 : Int32) (a3 : Nat) (ha3 : zkd a3 = 0) (x4 : Int32) (x5 : Int32) (x6 : Int32) (s0 : Int32) (M : zMem) (h : f_X3_search_b50 N rec a1 x2 a3 x4 x5 x6 s0 M Q) : zV G X M [(0, zR G 38), (1, zR G a1), (2, .int x2), (3, zR G a3), (4, .int x4), (5, .int x5), (6, .int x6)] [.int s0] 50 := by
  unfold f_X3_search_b50 at h
  refine zr_istore C [1, 2, 3, 4, 5, 6, 7, 0] dX3_search_50 (by decide) rfl (lv' := [(0, zR G 38), (1, zR G a1), (2, .int x2), (3, zR G a3), (4, .int x4), (5, .int x5), (6, .int x6), (7, .int s0)]) ?_
  refine zr_iload C 7 dX3_search_52 rfl ?_
  refine zr_if_ne C 63 dX3_search_54 (by decide) (fun c => ?_) (fun c => ?_)
  · have h := h.1 c
    refine zr_sub [0, 2, 4, 6, 7] rfl (lv' := [(0, zR G 38), (2, .int x2), (4, .int x4), (6, .int x6), (7, .int s0)]) ?_
    exact w_X3_search_b63 C N Q R _ hrec _ _ _ _ _ h
  · have h := h.2 c
    refine zr_iload C 5 dX3_search_57 rfl ?_
    refine zr_iconst C (v := 5) dX3_search_59 (by decide) ?_
    refine zr_icmp_lt C 75 dX3_search_60 (by decide) (fun c => ?_) (fun c => ?_)
    · have h := h.1 c
      refine zr_iconst C (v := 0) dX3_search_75 (by decide) ?_
      refine zr_istore C [1, 2, 3, 4, 5, 6, 0] dX3_search_76 (by decide) rfl (lv' := [(0, zR G 38), (1, zR G a1), (2, .int x2), (3, zR G a3), (4, .int x4), (5, .int x5), (8, .int (0 : Int32))]) ?_
      exact w_X3_search_l78 C N Q R _ hrec _ ha1 _ _ ha3 _ _ N _ _ h
    · have h := h.2 c
      refine zr_sub [0, 2, 4, 6, 7] rfl (lv' := [(0, zR G 38), (2, .int x2), (4, .int x4), (6, .int x6), (7, .int s0)]) ?_
      exact w_X3_search_b63 C N Q R _ hrec _ _ _ _ _ h
set_option maxHeartbeats 4000000 in
set_option maxRecDepth 100000 in
theorem w_X3_search_b49 {dd : Nat} {G : zG} {X : zX} (C : zC G X cX3_search RX3 (6 + dd + 1) 10) (N : Nat) (Q : zMem → Prop) (R : zRU G X cX3_search Q) (rec : Nat → Int32 → Nat → Int32 → Int32 → zMem → (zMem → Prop) → Prop) (hrec : ∀ (l : Launch) (y1 : Nat) (hy1 : zkd y1 = 0) (y2 : Int32) (y3 : Nat) (hy3 : zkd y3 = 0) (y4 : Int32) (y5 : Int32) (M : zMem) (Q : zMem → Prop), rec y1 y2 y3 y4 y5 M Q → zMU l G yX3_search cX3_search 10 (6 + dd) [zR G 38, zR G y1, .int y2, zR G y3, .int y4, .int y5] M Q) (a1 : Nat) (ha1 : zkd a1 = 0) (x2 : Int32) (a3 : Nat) (ha3 : zkd a3 = 0) (x4 : Int32) (x5 : Int32) (x6 : Int32) (M : zMem) (h : f_X3_search_b49 N rec a1 x2 a3 x4 x5 x6 M Q) : zV G X M [(0, zR G 38), (1, zR G a1), (2, .int x2), (3, zR G a3), (4, .int x4), (5, .int x5), (6, .int x6)] [] 49 := by
  unfold f_X3_search_b49 at h
  refine zr_iconst C (v := 0) dX3_search_49 (by decide) ?_
  exact w_X3_search_b50 C N Q R _ hrec _ ha1 _ _ ha3 _ _ _ _ _ h
set_option maxHeartbeats 4000000 in
set_option maxRecDepth 100000 in
theorem c_X3_search_e {dd : Nat} (l : Launch) (G : zG) (N : Nat) (rec : Nat → Int32 → Nat → Int32 → Int32 → zMem → (zMem → Prop) → Prop) (hrec : ∀ (l : Launch) (y1 : Nat) (hy1 : zkd y1 = 0) (y2 : Int32) (y3 : Nat) (hy3 : zkd y3 = 0) (y4 : Int32) (y5 : Int32) (M : zMem) (Q : zMem → Prop), rec y1 y2 y3 y4 y5 M Q → zMU l G yX3_search cX3_search 10 (6 + dd) [zR G 38, zR G y1, .int y2, zR G y3, .int y4, .int y5] M Q) (a1 : Nat) (ha1 : zkd a1 = 0) (x2 : Int32) (a3 : Nat) (ha3 : zkd a3 = 0) (x4 : Int32) (x5 : Int32) (M : zMem) (Q : zMem → Prop) (h : f_X3_search_e N rec a1 x2 a3 x4 x5 M Q) : zMU l G yX3_search cX3_search 10 (6 + dd + 1) [zR G 38, zR G a1, .int x2, zR G a3, .int x4, .int x5] M Q := by
  refine zEU (by decide) (Nat.le_of_ble_eq_true rfl) (lv := [(0, zR G 38), (1, zR G a1), (2, .int x2), (3, zR G a3), (4, .int x4), (5, .int x5)]) rfl (fun X C R => ?_)
  have C : zC G X cX3_search RX3 (6 + dd + 1) 10 := C
  unfold f_X3_search_e at h
  refine zr_aload_n C 0 dX3_search_0 rfl rfl ?_
  refine zcI (zrunV C (rest := []) (c_X3_isOver X.2.1 G N  _ _ h) zk_X3_isOver zl_X3_57 (zRc_3 zo_38) (by omega) (by decide) rfl (Nat.le_of_ble_eq_true rfl) rfl dX3_search_1) (fun r1 M2 h => ?_)
  refine zr_if_ne C 18 dX3_search_4 (by decide) (fun c => ?_) (fun c => ?_)
  · have h := h.1 c
    exact R _ _ _ h dX3_search_18
  · have h := h.2 c
    refine zr_aload_n C 1 dX3_search_7 rfl rfl ?_
    refine zr_iload_n C 2 dX3_search_8 rfl rfl ?_
    refine zr_aload_n C 3 dX3_search_9 rfl rfl ?_
    refine zr_iload C 4 dX3_search_10 rfl ?_
    refine zcI (zrunSN C (rest := []) (c_X4_whyApart X.2.1 G N _ ha1 _ _ ha3 _ _ _ h) zk_X4_whyApart znl_X3_68 (by omega) (by decide) rfl (Nat.le_of_ble_eq_true rfl) rfl dX3_search_12) (fun r3 M4 h => ?_)
    refine zr_if_eq C 19 dX3_search_15 (by decide) (fun c => ?_) (fun c => ?_)
    · have h := h.1 c
      refine zr_aload_n C 1 dX3_search_19 rfl rfl ?_
      refine zr_iload_n C 2 dX3_search_20 rfl rfl ?_
      refine zr_aload_n C 3 dX3_search_21 rfl rfl ?_
      refine zr_iload C 4 dX3_search_22 rfl ?_
      refine zcI (zrunSN C (rest := []) (c_X4_wayOfTurn X.2.1 G N _ ha1 _ _ ha3 _ _ _ h) zk_X4_wayOfTurn znl_X3_74 (by omega) (by decide) rfl (Nat.le_of_ble_eq_true rfl) rfl dX3_search_24) (fun r5 M6 h => ?_)
      refine zr_istore C [1, 2, 3, 4, 5, 6, 0] dX3_search_27 (by decide) rfl (lv' := [(0, zR G 38), (1, zR G a1), (2, .int x2), (3, zR G a3), (4, .int x4), (5, .int x5), (6, .int r5)]) ?_
      refine zr_iload C 6 dX3_search_29 rfl ?_
      refine zr_if_eq C 49 dX3_search_31 (by decide) (fun c => ?_) (fun c => ?_)
      · have h := h.1 c
        exact w_X3_search_b49 C N Q R _ hrec _ ha1 _ _ ha3 _ _ _ _ h
      · have h := h.2 c
        refine zr_aload_n C 1 dX3_search_34 rfl rfl ?_
        refine zr_iload_n C 2 dX3_search_35 rfl rfl ?_
        refine zr_aload_n C 3 dX3_search_36 rfl rfl ?_
        refine zr_iload C 4 dX3_search_37 rfl ?_
        refine zcI (zrunSN C (rest := []) (c_X4_endsCross X.2.1 G N _ ha1 _ _ ha3 _ _ _ h) zk_X4_endsCross znl_X3_77 (by omega) (by decide) rfl (Nat.le_of_ble_eq_true rfl) rfl dX3_search_39) (fun r13 M14 h => ?_)
        refine zr_if_eq C 49 dX3_search_42 (by decide) (fun c => ?_) (fun c => ?_)
        · have h := h.1 c
          exact w_X3_search_b49 C N Q R _ hrec _ ha1 _ _ ha3 _ _ _ _ h
        · have h := h.2 c
          refine zr_iconst C (v := 1) dX3_search_45 (by decide) ?_
          refine zr_goto C 50 dX3_search_46 (by decide) ?_
          exact w_X3_search_b50 C N Q R _ hrec _ ha1 _ _ ha3 _ _ _ _ _ h
    · have h := h.2 c
      exact R _ _ _ h dX3_search_18
theorem c_X3_search (l : Launch) (G : zG) (N : Nat) (d : Nat) : ∀ (a1 : Nat) (ha1 : zkd a1 = 0) (x2 : Int32) (a3 : Nat) (ha3 : zkd a3 = 0) (x4 : Int32) (x5 : Int32) (M : zMem) (Q : zMem → Prop), f_X3_search N d a1 x2 a3 x4 x5 M Q → zMU l G yX3_search cX3_search 10 (6 + d) [zR G 38, zR G a1, .int x2, zR G a3, .int x4, .int x5] M Q := by
  revert l
  induction d with
  | zero => intro l a1 ha1 x2 a3 ha3 x4 x5 M Q h; exact h.elim
  | succ d ih =>
    intro l a1 ha1 x2 a3 ha3 x4 x5 M Q h
    exact c_X3_search_e l G N (f_X3_search N d) (fun l a1 ha1 x2 a3 ha3 x4 x5 M Q h => ih l a1 ha1 x2 a3 ha3 x4 x5 M Q h) a1 ha1 x2 a3 ha3 x4 x5 M Q h
/-! X3_find -/
set_option maxHeartbeats 4000000 in
set_option maxRecDepth 100000 in
theorem w_X3_find_b17 {G : zG} {X : zX} (C : zC G X cX3_find RX3 14 4) (N : Nat) (Q : zMem → Prop) (R : zRU G X cX3_find Q) (x2 : Int32) (x3 : Int32) (M : zMem) (h : f_X3_find_b17 N x2 x3 M Q) : zV G X M [(0, zR G 38), (1, zR G 4), (2, .int x2), (3, .int x3)] [] 17 := by
  unfold f_X3_find_b17 at h
  refine zr_aload_n C 0 dX3_find_17 rfl rfl ?_
  refine zr_iload_n C 2 dX3_find_18 rfl rfl ?_
  refine zp_X3_44 C zo_38 dX3_find_19 ?_
  refine zr_letM (fun M1 hM1 => ?_)
  have h := h M1 hM1
  refine zr_aload_n C 0 dX3_find_22 rfl rfl ?_
  refine zr_iload_n C 3 dX3_find_23 rfl rfl ?_
  refine zp_X3_47 C zo_38 dX3_find_24 ?_
  refine zr_letM (fun M2 hM2 => ?_)
  have h := h M2 hM2
  refine zr_aload_n C 0 dX3_find_27 rfl rfl ?_
  refine zr_iconst C (v := 0) dX3_find_28 (by decide) ?_
  refine zp_X3_28 C zo_38 dX3_find_29 ?_
  refine zr_letM (fun M3 hM3 => ?_)
  have h := h M3 hM3
  refine zr_aload_n C 0 dX3_find_32 rfl rfl ?_
  refine zr_iconst C (v := 0) dX3_find_33 (by decide) ?_
  refine zp_X3_32 C zo_38 dX3_find_34 ?_
  refine zr_letM (fun M4 hM4 => ?_)
  have h := h M4 hM4
  refine zr_aload_n C 0 dX3_find_37 rfl rfl ?_
  refine zr_iconst C (v := 0) dX3_find_38 (by decide) ?_
  refine zp_X3_35 C zo_38 dX3_find_39 ?_
  refine zr_letM (fun M5 hM5 => ?_)
  have h := h M5 hM5
  refine zr_aload_n C 0 dX3_find_42 rfl rfl ?_
  refine zr_aload_n C 1 dX3_find_43 rfl rfl ?_
  refine zr_iload_n C 2 dX3_find_44 rfl rfl ?_
  have hi6 := h.1
  have h := h.2
  refine zr_aald C hi6 dX3_find_45 ?_
  refine zr_iconst C (v := 1) dX3_find_46 (by decide) ?_
  refine zr_aload_n C 1 dX3_find_47 rfl rfl ?_
  refine zr_iload_n C 3 dX3_find_48 rfl rfl ?_
  have hi7 := h.1
  have h := h.2
  refine zr_aald C hi7 dX3_find_49 ?_
  refine zr_iconst C (v := 1) dX3_find_50 (by decide) ?_
  refine zr_iconst C (v := 0) dX3_find_51 (by decide) ?_
  refine zcU (zrunS C (rest := []) (c_X3_search X.2.1 G N 7 _ (zkdAi hi6) _ _ (zkdAi hi7) _ _ _ _ h) zk_X3_search zl_X3_61 (by decide) (by decide) rfl (Nat.le_of_ble_eq_true rfl) rfl dX3_find_52) (fun M9 h => ?_)
  refine zr_aload_n C 0 dX3_find_55 rfl rfl ?_
  refine zcI (zrunV C (rest := []) (c_X3_isOver X.2.1 G N  _ _ h) zk_X3_isOver zl_X3_57 (zRc_3 zo_38) (by decide) (by decide) rfl (Nat.le_of_ble_eq_true rfl) rfl dX3_find_56) (fun r10 M11 h => ?_)
  refine zr_if_ne C 66 dX3_find_59 (by decide) (fun c => ?_) (fun c => ?_)
  · have h := h.1 c
    exact R _ _ _ h dX3_find_66
  · have h := h.2 c
    refine zr_aload_n C 0 dX3_find_62 rfl rfl ?_
    refine zcU (zrunV C (rest := []) (c_X3_gatherSpots X.2.1 G N  _ _ h) zk_X3_gatherSpots zl_X3_65 (zRc_3 zo_38) (by decide) (by decide) rfl (Nat.le_of_ble_eq_true rfl) rfl dX3_find_63) (fun M13 h => ?_)
    exact R _ _ _ h dX3_find_66
set_option maxHeartbeats 4000000 in
set_option maxRecDepth 100000 in
theorem c_X3_find (l : Launch) (G : zG) (N : Nat) (x2 : Int32) (x3 : Int32) (M : zMem) (Q : zMem → Prop) (h : f_X3_find N x2 x3 M Q) : zMU l G yX3_find cX3_find 4 14 [zR G 38, zR G 4, .int x2, .int x3] M Q := by
  refine zEU (by decide) (Nat.le_of_ble_eq_true rfl) (lv := [(0, zR G 38), (1, zR G 4), (2, .int x2), (3, .int x3)]) rfl (fun X C R => ?_)
  have C : zC G X cX3_find RX3 14 4 := C
  unfold f_X3_find at h
  refine zr_aload_n C 0 dX3_find_0 rfl rfl ?_
  refine zg_X3_44 C zo_38 dX3_find_1 ?_
  refine zr_iload_n C 2 dX3_find_4 rfl rfl ?_
  refine zr_icmp_ne C 17 dX3_find_5 (by decide) (fun c => ?_) (fun c => ?_)
  · have h := h.1 c
    exact w_X3_find_b17 C N Q R _ _ _ h
  · have h := h.2 c
    refine zr_aload_n C 0 dX3_find_8 rfl rfl ?_
    refine zg_X3_47 C zo_38 dX3_find_9 ?_
    refine zr_iload_n C 3 dX3_find_12 rfl rfl ?_
    refine zr_icmp_ne C 17 dX3_find_13 (by decide) (fun c => ?_) (fun c => ?_)
    · have h := h.1 c
      exact w_X3_find_b17 C N Q R _ _ _ h
    · have h := h.2 c
      exact R _ _ _ h dX3_find_16
/-! X3_countSpots -/
set_option maxHeartbeats 4000000 in
set_option maxRecDepth 100000 in
theorem w_X3_countSpots_b70 {G : zG} {X : zX} (C : zC G X cX3_countSpots RX3 15 5) (N : Nat) (Q : Int32 → zMem → Prop) (R : zRI G X cX3_countSpots Q) (x2 : Int32) (x3 : Int32) (M : zMem) (h : f_X3_countSpots_b70 N x2 x3 M Q) : zV G X M [(0, zR G 38), (2, .int x2), (3, .int x3)] [] 70 := by
  unfold f_X3_countSpots_b70 at h
  refine zr_aload_n C 0 dX3_countSpots_70 rfl rfl ?_
  refine zg_X3_50 C zo_38 dX3_countSpots_71 ?_
  refine zr_iconst C (v := 4) dX3_countSpots_74 (by decide) ?_
  refine zr_iload_n C 1 dX3_countSpots_75 rfl rfl ?_
  refine zr_imul C dX3_countSpots_76 ?_
  refine zr_iload_n C 2 dX3_countSpots_77 rfl rfl ?_
  refine zr_iadd C dX3_countSpots_78 ?_
  refine zr_iald C za_46 h.1 dX3_countSpots_79 ?_
  have h := h.2
  exact R _ _ _ _ h dX3_countSpots_80
set_option maxHeartbeats 4000000 in
set_option maxRecDepth 100000 in
theorem w_X3_countSpots_b44 {G : zG} {X : zX} (C : zC G X cX3_countSpots RX3 15 5) (N : Nat) (Q : Int32 → zMem → Prop) (R : zRI G X cX3_countSpots Q) (x2 : Int32) (x3 : Int32) (s0 : Int32) (M : zMem) (h : f_X3_countSpots_b44 N x2 x3 s0 M Q) : zV G X M [(0, zR G 38), (2, .int x2), (3, .int x3)] [.int s0] 44 := by
  unfold f_X3_countSpots_b44 at h
  refine zr_istore C [1, 2, 3, 0] dX3_countSpots_44 (by decide) rfl (lv' := [(0, zR G 38), (2, .int x2), (3, .int x3), (4, .int s0)]) ?_
  refine zr_aload_n C 0 dX3_countSpots_46 rfl rfl ?_
  refine zg_X3_50 C zo_38 dX3_countSpots_47 ?_
  refine zr_iconst C (v := 4) dX3_countSpots_50 (by decide) ?_
  refine zr_iload_n C 1 dX3_countSpots_51 rfl rfl ?_
  refine zr_imul C dX3_countSpots_52 ?_
  refine zr_iload_n C 2 dX3_countSpots_53 rfl rfl ?_
  refine zr_iadd C dX3_countSpots_54 ?_
  refine zr_iload C 3 dX3_countSpots_55 rfl ?_
  refine zr_iast C za_46 h.1 dX3_countSpots_57 ?_
  have h := h.2
  refine zr_letM (fun M5 hM5 => ?_)
  have h := h M5 hM5
  refine zr_aload_n C 0 dX3_countSpots_58 rfl rfl ?_
  refine zg_X3_50 C zo_38 dX3_countSpots_59 ?_
  refine zr_iconst C (v := 4) dX3_countSpots_62 (by decide) ?_
  refine zr_iload_n C 2 dX3_countSpots_63 rfl rfl ?_
  refine zr_imul C dX3_countSpots_64 ?_
  refine zr_iload_n C 1 dX3_countSpots_65 rfl rfl ?_
  refine zr_iadd C dX3_countSpots_66 ?_
  refine zr_iload C 3 dX3_countSpots_67 rfl ?_
  refine zr_iast C za_46 h.1 dX3_countSpots_69 ?_
  have h := h.2
  refine zr_letM (fun M6 hM6 => ?_)
  have h := h M6 hM6
  refine zr_sub [0, 1, 2] rfl (lv' := [(0, zR G 38), (2, .int x2), (3, .int x3)]) ?_
  exact w_X3_countSpots_b70 C N Q R _ _ _ h
set_option maxHeartbeats 4000000 in
set_option maxRecDepth 100000 in
theorem c_X3_countSpots (l : Launch) (G : zG) (N : Nat) (x2 : Int32) (x3 : Int32) (M : zMem) (Q : Int32 → zMem → Prop) (h : f_X3_countSpots N x2 x3 M Q) : zMI l G yX3_countSpots cX3_countSpots 5 .int 15 [zR G 38, zR G 4, .int x2, .int x3] M Q := by
  refine zEI (by decide) (Nat.le_of_ble_eq_true rfl) (lv := [(0, zR G 38), (1, zR G 4), (2, .int x2), (3, .int x3)]) rfl (fun X C R => ?_)
  have C : zC G X cX3_countSpots RX3 15 5 := C
  unfold f_X3_countSpots at h
  refine zr_iload_n C 2 dX3_countSpots_0 rfl rfl ?_
  refine zr_iload_n C 3 dX3_countSpots_1 rfl rfl ?_
  refine zr_icmp_ne C 7 dX3_countSpots_2 (by decide) (fun c => ?_) (fun c => ?_)
  · have h := h.1 c
    refine zr_aload_n C 0 dX3_countSpots_7 rfl rfl ?_
    refine zg_X3_50 C zo_38 dX3_countSpots_8 ?_
    refine zr_iconst C (v := 4) dX3_countSpots_11 (by decide) ?_
    refine zr_iload_n C 2 dX3_countSpots_12 rfl rfl ?_
    refine zr_imul C dX3_countSpots_13 ?_
    refine zr_iload_n C 3 dX3_countSpots_14 rfl rfl ?_
    refine zr_iadd C dX3_countSpots_15 ?_
    refine zr_iald C za_46 h.1 dX3_countSpots_16 ?_
    have h := h.2
    refine zr_iconst C (v := -1) dX3_countSpots_17 (by decide) ?_
    refine zr_icmp_ne C 70 dX3_countSpots_18 (by decide) (fun c => ?_) (fun c => ?_)
    · have h := h.1 c
      refine zr_sub [0, 2, 3] rfl (lv' := [(0, zR G 38), (2, .int x2), (3, .int x3)]) ?_
      exact w_X3_countSpots_b70 C N Q R _ _ _ h
    · have h := h.2 c
      refine zr_aload_n C 0 dX3_countSpots_21 rfl rfl ?_
      refine zr_aload_n C 1 dX3_countSpots_22 rfl rfl ?_
      refine zr_iload_n C 2 dX3_countSpots_23 rfl rfl ?_
      refine zr_iload_n C 3 dX3_countSpots_24 rfl rfl ?_
      refine zcU (zrunV C (rest := []) (c_X3_find X.2.1 G N _ _ _ _ h) zk_X3_find zl_X3_53 (zRc_3 zo_38) (by decide) (by decide) rfl (Nat.le_of_ble_eq_true rfl) rfl dX3_countSpots_25) (fun M2 h => ?_)
      refine zr_aload_n C 0 dX3_countSpots_28 rfl rfl ?_
      refine zcI (zrunV C (rest := []) (c_X3_isOver X.2.1 G N  _ _ h) zk_X3_isOver zl_X3_57 (zRc_3 zo_38) (by decide) (by decide) rfl (Nat.le_of_ble_eq_true rfl) rfl dX3_countSpots_29) (fun r3 M4 h => ?_)
      refine zr_if_eq C 40 dX3_countSpots_32 (by decide) (fun c => ?_) (fun c => ?_)
      · have h := h.1 c
        refine zr_aload_n C 0 dX3_countSpots_40 rfl rfl ?_
        refine zg_X3_35 C zo_38 dX3_countSpots_41 ?_
        refine zr_sub [0, 2, 3] rfl (lv' := [(0, zR G 38), (2, .int x2), (3, .int x3)]) ?_
        exact w_X3_countSpots_b44 C N Q R _ _ _ _ h
      · have h := h.2 c
        refine zr_bipush C (v := 101) dX3_countSpots_35 (by decide) ?_
        refine zr_goto C 44 dX3_countSpots_37 (by decide) ?_
        refine zr_sub [0, 2, 3] rfl (lv' := [(0, zR G 38), (2, .int x2), (3, .int x3)]) ?_
        exact w_X3_countSpots_b44 C N Q R _ _ _ _ h
  · have h := h.2 c
    refine zr_iconst C (v := 0) dX3_countSpots_5 (by decide) ?_
    exact R _ _ _ _ h dX3_countSpots_6
/-! X5_adds -/
set_option maxHeartbeats 4000000 in
set_option maxRecDepth 100000 in
theorem c_X5_adds (l : Launch) (G : zG) (N : Nat) (x1 : Int32) (M : zMem) (Q : Int32 → zMem → Prop) (h : f_X5_adds N x1 M Q) : zMI l G yX5_adds cX5_adds 2 .int 0 [zR G 1, .int x1] M Q := by
  refine zEI (by decide) (Nat.le_of_ble_eq_true rfl) (lv := [(0, zR G 1), (1, .int x1)]) rfl (fun X C R => ?_)
  have C : zC G X cX5_adds RX5 0 2 := C
  unfold f_X5_adds at h
  refine zr_aload_n C 0 dX5_adds_0 rfl rfl ?_
  refine zg_X5_15 C zo_1 dX5_adds_1 ?_
  refine zr_sipush C (v := 130) dX5_adds_4 (by decide) ?_
  refine zr_icmp_ge C 30 dX5_adds_7 (by decide) (fun c => ?_) (fun c => ?_)
  · have h := h.1 c
    refine zr_aload_n C 0 dX5_adds_30 rfl rfl ?_
    refine zg_X5_15 C zo_1 dX5_adds_31 ?_
    exact R _ _ _ _ h dX5_adds_34
  · have h := h.2 c
    refine zr_aload_n C 0 dX5_adds_10 rfl rfl ?_
    refine zg_X5_9 C zo_1 dX5_adds_11 ?_
    refine zr_aload_n C 0 dX5_adds_14 rfl rfl ?_
    refine zg_X5_15 C zo_1 dX5_adds_15 ?_
    refine zr_iload_n C 1 dX5_adds_18 rfl rfl ?_
    refine zr_iast C za_2 h.1 dX5_adds_19 ?_
    have h := h.2
    refine zr_letM (fun M1 hM1 => ?_)
    have h := h M1 hM1
    refine zr_aload_n C 0 dX5_adds_20 rfl rfl ?_
    refine zr_dup C rfl dX5_adds_21 ?_
    refine zg_X5_15 C zo_1 dX5_adds_22 ?_
    refine zr_iconst C (v := 1) dX5_adds_25 (by decide) ?_
    refine zr_iadd C dX5_adds_26 ?_
    refine zp_X5_15 C zo_1 dX5_adds_27 ?_
    refine zr_letM (fun M2 hM2 => ?_)
    have h := h M2 hM2
    refine zr_aload_n C 0 dX5_adds_30 rfl rfl ?_
    refine zg_X5_15 C zo_1 dX5_adds_31 ?_
    exact R _ _ _ _ h dX5_adds_34
/-! X5_empties -/
set_option maxHeartbeats 4000000 in
set_option maxRecDepth 100000 in
theorem c_X5_empties (l : Launch) (G : zG) (N : Nat)  (M : zMem) (Q : Int32 → zMem → Prop) (h : f_X5_empties N  M Q) : zMI l G yX5_empties cX5_empties 2 .int 0 [zR G 1] M Q := by
  refine zEI (by decide) (Nat.le_of_ble_eq_true rfl) (lv := [(0, zR G 1)]) rfl (fun X C R => ?_)
  have C : zC G X cX5_empties RX5 0 2 := C
  unfold f_X5_empties at h
  refine zr_aload_n C 0 dX5_empties_0 rfl rfl ?_
  refine zg_X5_15 C zo_1 dX5_empties_1 ?_
  refine zr_letI (fun v1 hv1 => ?_)
  have h := h v1 hv1
  refine zr_istore_n C [1, 0] dX5_empties_4 rfl (by decide) rfl (lv' := [(0, zR G 1), (1, .int v1)]) ?_
  refine zr_aload_n C 0 dX5_empties_5 rfl rfl ?_
  refine zr_iconst C (v := 0) dX5_empties_6 (by decide) ?_
  refine zp_X5_15 C zo_1 dX5_empties_7 ?_
  refine zr_letM (fun M2 hM2 => ?_)
  have h := h M2 hM2
  refine zr_iload_n C 1 dX5_empties_10 rfl rfl ?_
  exact R _ _ _ _ h dX5_empties_11
/-! X5_endsItem -/
set_option maxHeartbeats 4000000 in
set_option maxRecDepth 100000 in
theorem c_X5_endsItem (l : Launch) (G : zG) (N : Nat)  (M : zMem) (Q : Int32 → zMem → Prop) (h : f_X5_endsItem N  M Q) : zMI l G yX5_endsItem cX5_endsItem 1 .boolean 0 [zR G 1] M Q := by
  refine zEZ (by decide) (Nat.le_of_ble_eq_true rfl) (lv := [(0, zR G 1)]) rfl (fun X C R => ?_)
  have C : zC G X cX5_endsItem RX5 0 1 := C
  unfold f_X5_endsItem at h
  refine zr_aload_n C 0 dX5_endsItem_0 rfl rfl ?_
  refine zg_X5_25 C zo_1 dX5_endsItem_1 ?_
  refine zr_bipush C (v := 8) dX5_endsItem_4 (by decide) ?_
  refine zr_icmp_eq C 11 dX5_endsItem_6 (by decide) (fun c => ?_) (fun c => ?_)
  · have h := h.1 c
    refine zr_aload_n C 0 dX5_endsItem_11 rfl rfl ?_
    refine zr_dup C rfl dX5_endsItem_12 ?_
    refine zg_X5_22 C zo_1 dX5_endsItem_13 ?_
    refine zr_iconst C (v := 1) dX5_endsItem_16 (by decide) ?_
    refine zr_iadd C dX5_endsItem_17 ?_
    refine zp_X5_22 C zo_1 dX5_endsItem_18 ?_
    refine zr_letM (fun M1 hM1 => ?_)
    have h := h M1 hM1
    refine zr_aload_n C 0 dX5_endsItem_21 rfl rfl ?_
    refine zr_iconst C (v := -1) dX5_endsItem_22 (by decide) ?_
    refine zp_X5_25 C zo_1 dX5_endsItem_23 ?_
    refine zr_letM (fun M2 hM2 => ?_)
    have h := h M2 hM2
    refine zr_iconst C (v := 1) dX5_endsItem_26 (by decide) ?_
    exact R _ _ _ _ zb_1.1 h dX5_endsItem_27
  · have h := h.2 c
    refine zr_iconst C (v := 0) dX5_endsItem_9 (by decide) ?_
    exact R _ _ _ _ zb_0.1 h dX5_endsItem_10
/-! X5_isFigure -/
set_option maxHeartbeats 4000000 in
set_option maxRecDepth 100000 in
theorem c_X5_isFigure (l : Launch) (G : zG) (N : Nat) (x1 : Int32) (M : zMem) (Q : Int32 → zMem → Prop) (h : f_X5_isFigure N x1 M Q) : zMI l G yX5_isFigure cX5_isFigure 2 .boolean 0 [zR G 1, .int x1] M Q := by
  refine zEZ (by decide) (Nat.le_of_ble_eq_true rfl) (lv := [(0, zR G 1), (1, .int x1)]) rfl (fun X C R => ?_)
  have C : zC G X cX5_isFigure RX5 0 2 := C
  unfold f_X5_isFigure at h
  refine zr_iload_n C 1 dX5_isFigure_0 rfl rfl ?_
  refine zr_aload_n C 0 dX5_isFigure_1 rfl rfl ?_
  refine zg_X5_15 C zo_1 dX5_isFigure_2 ?_
  refine zr_icmp_ge C 34 dX5_isFigure_5 (by decide) (fun c => ?_) (fun c => ?_)
  · have h := h.1 c
    refine zr_iconst C (v := 0) dX5_isFigure_34 (by decide) ?_
    exact R _ _ _ _ zb_0.1 h dX5_isFigure_35
  · have h := h.2 c
    refine zr_aload_n C 0 dX5_isFigure_8 rfl rfl ?_
    refine zg_X5_9 C zo_1 dX5_isFigure_9 ?_
    refine zr_iload_n C 1 dX5_isFigure_12 rfl rfl ?_
    refine zr_iald C za_2 h.1 dX5_isFigure_13 ?_
    have h := h.2
    refine zr_bipush C (v := 48) dX5_isFigure_14 (by decide) ?_
    refine zr_icmp_lt C 34 dX5_isFigure_16 (by decide) (fun c => ?_) (fun c => ?_)
    · have h := h.1 c
      refine zr_iconst C (v := 0) dX5_isFigure_34 (by decide) ?_
      exact R _ _ _ _ zb_0.1 h dX5_isFigure_35
    · have h := h.2 c
      refine zr_aload_n C 0 dX5_isFigure_19 rfl rfl ?_
      refine zg_X5_9 C zo_1 dX5_isFigure_20 ?_
      refine zr_iload_n C 1 dX5_isFigure_23 rfl rfl ?_
      refine zr_iald C za_2 h.1 dX5_isFigure_24 ?_
      have h := h.2
      refine zr_bipush C (v := 57) dX5_isFigure_25 (by decide) ?_
      refine zr_icmp_gt C 34 dX5_isFigure_27 (by decide) (fun c => ?_) (fun c => ?_)
      · have h := h.1 c
        refine zr_iconst C (v := 0) dX5_isFigure_34 (by decide) ?_
        exact R _ _ _ _ zb_0.1 h dX5_isFigure_35
      · have h := h.2 c
        refine zr_iconst C (v := 1) dX5_isFigure_30 (by decide) ?_
        refine zr_goto C 35 dX5_isFigure_31 (by decide) ?_
        exact R _ _ _ _ zb_1.1 h dX5_isFigure_35
/-! X5_opensItem -/
set_option maxHeartbeats 4000000 in
set_option maxRecDepth 100000 in
theorem c_X5_opensItem (l : Launch) (G : zG) (N : Nat)  (M : zMem) (Q : Int32 → zMem → Prop) (h : f_X5_opensItem N  M Q) : zMI l G yX5_opensItem cX5_opensItem 1 .boolean 0 [zR G 1] M Q := by
  refine zEZ (by decide) (Nat.le_of_ble_eq_true rfl) (lv := [(0, zR G 1)]) rfl (fun X C R => ?_)
  have C : zC G X cX5_opensItem RX5 0 1 := C
  unfold f_X5_opensItem at h
  refine zr_aload_n C 0 dX5_opensItem_0 rfl rfl ?_
  refine zg_X5_25 C zo_1 dX5_opensItem_1 ?_
  refine zr_iconst C (v := -1) dX5_opensItem_4 (by decide) ?_
  refine zr_icmp_ne C 16 dX5_opensItem_5 (by decide) (fun c => ?_) (fun c => ?_)
  · have h := h.1 c
    refine zr_iconst C (v := 0) dX5_opensItem_16 (by decide) ?_
    exact R _ _ _ _ zb_0.1 h dX5_opensItem_17
  · have h := h.2 c
    refine zr_aload_n C 0 dX5_opensItem_8 rfl rfl ?_
    refine zg_X5_22 C zo_1 dX5_opensItem_9 ?_
    refine zr_iconst C (v := 4) dX5_opensItem_12 (by decide) ?_
    refine zr_icmp_lt C 18 dX5_opensItem_13 (by decide) (fun c => ?_) (fun c => ?_)
    · have h := h.1 c
      refine zr_aload_n C 0 dX5_opensItem_18 rfl rfl ?_
      refine zr_iconst C (v := 0) dX5_opensItem_19 (by decide) ?_
      refine zp_X5_25 C zo_1 dX5_opensItem_20 ?_
      refine zr_letM (fun M1 hM1 => ?_)
      have h := h M1 hM1
      refine zr_iconst C (v := 1) dX5_opensItem_23 (by decide) ?_
      exact R _ _ _ _ zb_1.1 h dX5_opensItem_24
    · have h := h.2 c
      refine zr_iconst C (v := 0) dX5_opensItem_16 (by decide) ?_
      exact R _ _ _ _ zb_0.1 h dX5_opensItem_17
/-! X5_wantsNumber -/
set_option maxHeartbeats 4000000 in
set_option maxRecDepth 100000 in
theorem c_X5_wantsNumber (l : Launch) (G : zG) (N : Nat)  (M : zMem) (Q : Int32 → zMem → Prop) (h : f_X5_wantsNumber N  M Q) : zMI l G yX5_wantsNumber cX5_wantsNumber 1 .boolean 0 [zR G 1] M Q := by
  refine zEZ (by decide) (Nat.le_of_ble_eq_true rfl) (lv := [(0, zR G 1)]) rfl (fun X C R => ?_)
  have C : zC G X cX5_wantsNumber RX5 0 1 := C
  unfold f_X5_wantsNumber at h
  refine zr_aload_n C 0 dX5_wantsNumber_0 rfl rfl ?_
  refine zg_X5_22 C zo_1 dX5_wantsNumber_1 ?_
  refine zr_iconst C (v := 4) dX5_wantsNumber_4 (by decide) ?_
  refine zr_icmp_ge C 28 dX5_wantsNumber_5 (by decide) (fun c => ?_) (fun c => ?_)
  · have h := h.1 c
    refine zr_iconst C (v := 0) dX5_wantsNumber_28 (by decide) ?_
    exact R _ _ _ _ zb_0.1 h dX5_wantsNumber_29
  · have h := h.2 c
    refine zr_aload_n C 0 dX5_wantsNumber_8 rfl rfl ?_
    refine zg_X5_25 C zo_1 dX5_wantsNumber_9 ?_
    refine zr_if_lt C 28 dX5_wantsNumber_12 (by decide) (fun c => ?_) (fun c => ?_)
    · have h := h.1 c
      refine zr_iconst C (v := 0) dX5_wantsNumber_28 (by decide) ?_
      exact R _ _ _ _ zb_0.1 h dX5_wantsNumber_29
    · have h := h.2 c
      refine zr_aload_n C 0 dX5_wantsNumber_15 rfl rfl ?_
      refine zg_X5_25 C zo_1 dX5_wantsNumber_16 ?_
      refine zr_bipush C (v := 8) dX5_wantsNumber_19 (by decide) ?_
      refine zr_icmp_ge C 28 dX5_wantsNumber_21 (by decide) (fun c => ?_) (fun c => ?_)
      · have h := h.1 c
        refine zr_iconst C (v := 0) dX5_wantsNumber_28 (by decide) ?_
        exact R _ _ _ _ zb_0.1 h dX5_wantsNumber_29
      · have h := h.2 c
        refine zr_iconst C (v := 1) dX5_wantsNumber_24 (by decide) ?_
        refine zr_goto C 29 dX5_wantsNumber_25 (by decide) ?_
        exact R _ _ _ _ zb_1.1 h dX5_wantsNumber_29
/-! X5_takesMinus -/
set_option maxHeartbeats 4000000 in
set_option maxRecDepth 100000 in
theorem c_X5_takesMinus (l : Launch) (G : zG) (N : Nat)  (M : zMem) (Q : Int32 → zMem → Prop) (h : f_X5_takesMinus N  M Q) : zMI l G yX5_takesMinus cX5_takesMinus 1 .boolean 1 [zR G 1] M Q := by
  refine zEZ (by decide) (Nat.le_of_ble_eq_true rfl) (lv := [(0, zR G 1)]) rfl (fun X C R => ?_)
  have C : zC G X cX5_takesMinus RX5 1 1 := C
  unfold f_X5_takesMinus at h
  refine zr_aload_n C 0 dX5_takesMinus_0 rfl rfl ?_
  refine zcI (zrunV C (rest := []) (c_X5_wantsNumber X.2.1 G N  _ _ h) zk_X5_wantsNumber zl_X5_52 (zRc_4 zo_1) (by decide) (by decide) rfl (Nat.le_of_ble_eq_true rfl) rfl dX5_takesMinus_1) (fun r1 M2 h => ?_)
  refine zr_if_eq C 14 dX5_takesMinus_4 (by decide) (fun c => ?_) (fun c => ?_)
  · have h := h.1 c
    refine zr_iconst C (v := 0) dX5_takesMinus_14 (by decide) ?_
    exact R _ _ _ _ zb_0.1 h dX5_takesMinus_15
  · have h := h.2 c
    refine zr_aload_n C 0 dX5_takesMinus_7 rfl rfl ?_
    refine zg_X5_28 C zo_1 dX5_takesMinus_8 ?_
    refine zr_if_eq C 16 dX5_takesMinus_11 (by decide) (fun c => ?_) (fun c => ?_)
    · have h := h.1 c
      refine zr_aload_n C 0 dX5_takesMinus_16 rfl rfl ?_
      refine zr_iconst C (v := 1) dX5_takesMinus_17 (by decide) ?_
      refine zp_X5_28 C zo_1 zb_1 dX5_takesMinus_18 ?_
      refine zr_letM (fun M3 hM3 => ?_)
      have h := h M3 hM3
      refine zr_iconst C (v := 1) dX5_takesMinus_21 (by decide) ?_
      exact R _ _ _ _ zb_1.1 h dX5_takesMinus_22
    · have h := h.2 c
      refine zr_iconst C (v := 0) dX5_takesMinus_14 (by decide) ?_
      exact R _ _ _ _ zb_0.1 h dX5_takesMinus_15
/-! X5_takesNumber -/
set_option maxHeartbeats 4000000 in
set_option maxRecDepth 100000 in
theorem w_X5_takesNumber_b58 {G : zG} {X : zX} (C : zC G X cX5_takesNumber RX5 1 3) (N : Nat) (Q : Int32 → zMem → Prop) (R : zRZ G X cX5_takesNumber Q) (s1 : Int32) (s2 : Int32) (M : zMem) (h : f_X5_takesNumber_b58 N s1 s2 M Q) : zV G X M [(0, zR G 1)] [.int s2, .int s1, zR G 3] 58 := by
  unfold f_X5_takesNumber_b58 at h
  refine zr_iast C za_3 h.1 dX5_takesNumber_58 ?_
  have h := h.2
  refine zr_letM (fun M6 hM6 => ?_)
  have h := h M6 hM6
  refine zr_aload_n C 0 dX5_takesNumber_59 rfl rfl ?_
  refine zr_dup C rfl dX5_takesNumber_60 ?_
  refine zg_X5_25 C zo_1 dX5_takesNumber_61 ?_
  refine zr_iconst C (v := 1) dX5_takesNumber_64 (by decide) ?_
  refine zr_iadd C dX5_takesNumber_65 ?_
  refine zp_X5_25 C zo_1 dX5_takesNumber_66 ?_
  refine zr_letM (fun M7 hM7 => ?_)
  have h := h M7 hM7
  refine zr_aload_n C 0 dX5_takesNumber_69 rfl rfl ?_
  refine zr_iconst C (v := 0) dX5_takesNumber_70 (by decide) ?_
  refine zp_X5_28 C zo_1 zb_0 dX5_takesNumber_71 ?_
  refine zr_letM (fun M8 hM8 => ?_)
  have h := h M8 hM8
  refine zr_iconst C (v := 1) dX5_takesNumber_74 (by decide) ?_
  exact R _ _ _ _ zb_1.1 h dX5_takesNumber_75
set_option maxHeartbeats 4000000 in
set_option maxRecDepth 100000 in
theorem c_X5_takesNumber (l : Launch) (G : zG) (N : Nat) (x1 : Int32) (M : zMem) (Q : Int32 → zMem → Prop) (h : f_X5_takesNumber N x1 M Q) : zMI l G yX5_takesNumber cX5_takesNumber 3 .boolean 1 [zR G 1, .int x1] M Q := by
  refine zEZ (by decide) (Nat.le_of_ble_eq_true rfl) (lv := [(0, zR G 1), (1, .int x1)]) rfl (fun X C R => ?_)
  have C : zC G X cX5_takesNumber RX5 1 3 := C
  unfold f_X5_takesNumber at h
  refine zr_aload_n C 0 dX5_takesNumber_0 rfl rfl ?_
  refine zcI (zrunV C (rest := []) (c_X5_wantsNumber X.2.1 G N  _ _ h) zk_X5_wantsNumber zl_X5_52 (zRc_4 zo_1) (by decide) (by decide) rfl (Nat.le_of_ble_eq_true rfl) rfl dX5_takesNumber_1) (fun r1 M2 h => ?_)
  refine zr_if_eq C 17 dX5_takesNumber_4 (by decide) (fun c => ?_) (fun c => ?_)
  · have h := h.1 c
    refine zr_iconst C (v := 0) dX5_takesNumber_17 (by decide) ?_
    exact R _ _ _ _ zb_0.1 h dX5_takesNumber_18
  · have h := h.2 c
    refine zr_aload_n C 0 dX5_takesNumber_7 rfl rfl ?_
    refine zr_iload_n C 1 dX5_takesNumber_8 rfl rfl ?_
    refine zr_iconst C (v := 1) dX5_takesNumber_9 (by decide) ?_
    refine zr_iadd C dX5_takesNumber_10 ?_
    refine zcI (zrunV C (rest := []) (c_X5_isFigure X.2.1 G N _ _ _ h) zk_X5_isFigure zl_X5_36 (zRc_4 zo_1) (by decide) (by decide) rfl (Nat.le_of_ble_eq_true rfl) rfl dX5_takesNumber_11) (fun r3 M4 h => ?_)
    refine zr_if_eq C 19 dX5_takesNumber_14 (by decide) (fun c => ?_) (fun c => ?_)
    · have h := h.1 c
      refine zr_aload_n C 0 dX5_takesNumber_19 rfl rfl ?_
      refine zg_X5_9 C zo_1 dX5_takesNumber_20 ?_
      refine zr_iload_n C 1 dX5_takesNumber_23 rfl rfl ?_
      refine zr_iald C za_2 h.1 dX5_takesNumber_24 ?_
      have h := h.2
      refine zr_bipush C (v := 48) dX5_takesNumber_25 (by decide) ?_
      refine zr_isub C dX5_takesNumber_27 ?_
      refine zr_letI (fun v5 hv5 => ?_)
      have h := h v5 hv5
      refine zr_istore_n C [1, 0] dX5_takesNumber_28 rfl (by decide) rfl (lv' := [(0, zR G 1), (2, .int v5)]) ?_
      refine zr_aload_n C 0 dX5_takesNumber_29 rfl rfl ?_
      refine zg_X5_19 C zo_1 dX5_takesNumber_30 ?_
      refine zr_aload_n C 0 dX5_takesNumber_33 rfl rfl ?_
      refine zg_X5_22 C zo_1 dX5_takesNumber_34 ?_
      refine zr_bipush C (v := 8) dX5_takesNumber_37 (by decide) ?_
      refine zr_imul C dX5_takesNumber_39 ?_
      refine zr_aload_n C 0 dX5_takesNumber_40 rfl rfl ?_
      refine zg_X5_25 C zo_1 dX5_takesNumber_41 ?_
      refine zr_iadd C dX5_takesNumber_44 ?_
      refine zr_aload_n C 0 dX5_takesNumber_45 rfl rfl ?_
      refine zg_X5_28 C zo_1 dX5_takesNumber_46 ?_
      refine zr_if_eq C 57 dX5_takesNumber_49 (by decide) (fun c => ?_) (fun c => ?_)
      · have h := h.1 c
        refine zr_iload_n C 1 dX5_takesNumber_57 rfl rfl ?_
        refine zr_sub [0] rfl (lv' := [(0, zR G 1)]) ?_
        exact w_X5_takesNumber_b58 C N Q R _ _ _ h
      · have h := h.2 c
        refine zr_iload_n C 1 dX5_takesNumber_52 rfl rfl ?_
        refine zr_ineg C dX5_takesNumber_53 ?_
        refine zr_goto C 58 dX5_takesNumber_54 (by decide) ?_
        refine zr_sub [0] rfl (lv' := [(0, zR G 1)]) ?_
        exact w_X5_takesNumber_b58 C N Q R _ _ _ h
    · have h := h.2 c
      refine zr_iconst C (v := 0) dX5_takesNumber_17 (by decide) ?_
      exact R _ _ _ _ zb_0.1 h dX5_takesNumber_18
/-! X5_takesToken -/
set_option maxHeartbeats 4000000 in
set_option maxRecDepth 100000 in
theorem c_X5_takesToken (l : Launch) (G : zG) (N : Nat) (x1 : Int32) (M : zMem) (Q : Int32 → zMem → Prop) (h : f_X5_takesToken N x1 M Q) : zMI l G yX5_takesToken cX5_takesToken 2 .boolean 2 [zR G 1, .int x1] M Q := by
  refine zEZ (by decide) (Nat.le_of_ble_eq_true rfl) (lv := [(0, zR G 1), (1, .int x1)]) rfl (fun X C R => ?_)
  have C : zC G X cX5_takesToken RX5 2 2 := C
  unfold f_X5_takesToken at h
  refine zr_aload_n C 0 dX5_takesToken_0 rfl rfl ?_
  refine zr_iload_n C 1 dX5_takesToken_1 rfl rfl ?_
  refine zcI (zrunV C (rest := []) (c_X5_isFigure X.2.1 G N _ _ _ h) zk_X5_isFigure zl_X5_36 (zRc_4 zo_1) (by decide) (by decide) rfl (Nat.le_of_ble_eq_true rfl) rfl dX5_takesToken_2) (fun r1 M2 h => ?_)
  refine zr_if_eq C 14 dX5_takesToken_5 (by decide) (fun c => ?_) (fun c => ?_)
  · have h := h.1 c
    refine zr_aload_n C 0 dX5_takesToken_14 rfl rfl ?_
    refine zg_X5_9 C zo_1 dX5_takesToken_15 ?_
    refine zr_iload_n C 1 dX5_takesToken_18 rfl rfl ?_
    refine zr_iald C za_2 h.1 dX5_takesToken_19 ?_
    have h := h.2
    by_cases c0 : (zrd M2 2 x1) = (45 : Int32)
    · have h := h.1 c0
      refine zr_lookup C 61 dX5_takesToken_20 (by decide) (by rw [c0] <;> decide) (by decide) ?_
      refine zr_aload_n C 0 dX5_takesToken_61 rfl rfl ?_
      refine zcI (zrunV C (rest := []) (c_X5_takesMinus X.2.1 G N  _ _ h) zk_X5_takesMinus zl_X5_46 (zRc_4 zo_1) (by decide) (by decide) rfl (Nat.le_of_ble_eq_true rfl) rfl dX5_takesToken_62) (fun r3 M4 h => ?_)
      exact R _ _ _ _ h.1.1 h.2 dX5_takesToken_65
    by_cases c1 : (zrd M2 2 x1) = (59 : Int32)
    · have h := h.2.1 c1
      refine zr_lookup C 66 dX5_takesToken_20 (by decide) (by rw [c1] <;> decide) (by decide) ?_
      refine zr_aload_n C 0 dX5_takesToken_66 rfl rfl ?_
      refine zcI (zrunV C (rest := []) (c_X5_endsItem X.2.1 G N  _ _ h) zk_X5_endsItem zl_X5_49 (zRc_4 zo_1) (by decide) (by decide) rfl (Nat.le_of_ble_eq_true rfl) rfl dX5_takesToken_67) (fun r5 M6 h => ?_)
      exact R _ _ _ _ h.1.1 h.2 dX5_takesToken_70
    by_cases c2 : (zrd M2 2 x1) = (97 : Int32)
    · have h := h.2.2.1 c2
      refine zr_lookup C 56 dX5_takesToken_20 (by decide) (by rw [c2] <;> decide) (by decide) ?_
      refine zr_aload_n C 0 dX5_takesToken_56 rfl rfl ?_
      refine zcI (zrunV C (rest := []) (c_X5_opensItem X.2.1 G N  _ _ h) zk_X5_opensItem zl_X5_42 (zRc_4 zo_1) (by decide) (by decide) rfl (Nat.le_of_ble_eq_true rfl) rfl dX5_takesToken_57) (fun r7 M8 h => ?_)
      exact R _ _ _ _ h.1.1 h.2 dX5_takesToken_60
    have h := h.2.2.2 c0 c1 c2
    refine zr_lookup C 71 dX5_takesToken_20 (by decide) (zlk_dflt (zlk3 c0 c1 c2)) (by decide) ?_
    refine zr_iconst C (v := 0) dX5_takesToken_71 (by decide) ?_
    exact R _ _ _ _ zb_0.1 h dX5_takesToken_72
  · have h := h.2 c
    refine zr_aload_n C 0 dX5_takesToken_8 rfl rfl ?_
    refine zr_iload_n C 1 dX5_takesToken_9 rfl rfl ?_
    refine zcI (zrunV C (rest := []) (c_X5_takesNumber X.2.1 G N _ _ _ h) zk_X5_takesNumber zl_X5_39 (zRc_4 zo_1) (by decide) (by decide) rfl (Nat.le_of_ble_eq_true rfl) rfl dX5_takesToken_10) (fun r9 M10 h => ?_)
    exact R _ _ _ _ h.1.1 h.2 dX5_takesToken_13
/-! X5_findFault -/
set_option maxHeartbeats 4000000 in
set_option maxRecDepth 100000 in
theorem w_X5_findFault_b46 {G : zG} {X : zX} (C : zC G X cX5_findFault RX5 3 2) (N : Nat) (Q : Int32 → zMem → Prop) (R : zRI G X cX5_findFault Q) (x1 : Int32) (k17 : Int32 → zMem → Prop) (hk17 : ∀ (z1 : Int32) (M : zMem), k17 z1 M → zV G X M [(0, zR G 1), (1, .int z1)] [] 17) (M : zMem) (h : f_X5_findFault_b46 N k17 x1 M Q) : zV G X M [(0, zR G 1), (1, .int x1)] [] 46 := by
  unfold f_X5_findFault_b46 at h
  obtain ⟨v4, hv4⟩ : ∃ y : Int32, y = x1 + (1 : Int32) := ⟨_, rfl⟩
  have h := h v4 hv4
  refine zr_iinc C 1 [1, 0] dX5_findFault_46 rfl (by rw [hv4]; rfl) (by decide) rfl (lv' := [(0, zR G 1), (1, .int v4)]) ?_
  refine zr_goto C 17 dX5_findFault_49 (by decide) ?_
  exact hk17 _ _ h
set_option maxHeartbeats 4000000 in
set_option maxRecDepth 100000 in
theorem w_X5_findFault_b17 {G : zG} {X : zX} (C : zC G X cX5_findFault RX5 3 2) (N : Nat) (Q : Int32 → zMem → Prop) (R : zRI G X cX5_findFault Q) (k17 : Int32 → zMem → Prop) (hk17 : ∀ (z1 : Int32) (M : zMem), k17 z1 M → zV G X M [(0, zR G 1), (1, .int z1)] [] 17) (x1 : Int32) (M : zMem) (h : f_X5_findFault_b17 N k17 x1 M Q) : zV G X M [(0, zR G 1), (1, .int x1)] [] 17 := by
  unfold f_X5_findFault_b17 at h
  refine zr_iload_n C 1 dX5_findFault_17 rfl rfl ?_
  refine zr_aload_n C 0 dX5_findFault_18 rfl rfl ?_
  refine zg_X5_15 C zo_1 dX5_findFault_19 ?_
  refine zr_icmp_ge C 52 dX5_findFault_22 (by decide) (fun c => ?_) (fun c => ?_)
  · have h := h.1 c
    refine zr_aload_n C 0 dX5_findFault_52 rfl rfl ?_
    refine zg_X5_25 C zo_1 dX5_findFault_53 ?_
    refine zr_iconst C (v := -1) dX5_findFault_56 (by decide) ?_
    refine zr_icmp_ne C 64 dX5_findFault_57 (by decide) (fun c => ?_) (fun c => ?_)
    · have h := h.1 c
      refine zr_aload_n C 0 dX5_findFault_64 rfl rfl ?_
      refine zg_X5_15 C zo_1 dX5_findFault_65 ?_
      exact R _ _ _ _ h dX5_findFault_68
    · have h := h.2 c
      refine zr_iconst C (v := -1) dX5_findFault_60 (by decide) ?_
      refine zr_goto C 68 dX5_findFault_61 (by decide) ?_
      exact R _ _ _ _ h dX5_findFault_68
  · have h := h.2 c
    refine zr_aload_n C 0 dX5_findFault_25 rfl rfl ?_
    refine zg_X5_9 C zo_1 dX5_findFault_26 ?_
    refine zr_iload_n C 1 dX5_findFault_29 rfl rfl ?_
    refine zr_iald C za_2 h.1 dX5_findFault_30 ?_
    have h := h.2
    refine zr_bipush C (v := 32) dX5_findFault_31 (by decide) ?_
    refine zr_icmp_eq C 46 dX5_findFault_33 (by decide) (fun c => ?_) (fun c => ?_)
    · have h := h.1 c
      exact w_X5_findFault_b46 C N Q R _ _ hk17 _ h
    · have h := h.2 c
      refine zr_aload_n C 0 dX5_findFault_36 rfl rfl ?_
      refine zr_iload_n C 1 dX5_findFault_37 rfl rfl ?_
      refine zcI (zrunV C (rest := []) (c_X5_takesToken X.2.1 G N _ _ _ h) zk_X5_takesToken zl_X5_32 (zRc_4 zo_1) (by decide) (by decide) rfl (Nat.le_of_ble_eq_true rfl) rfl dX5_findFault_38) (fun r5 M6 h => ?_)
      refine zr_if_ne C 46 dX5_findFault_41 (by decide) (fun c => ?_) (fun c => ?_)
      · have h := h.1 c
        exact w_X5_findFault_b46 C N Q R _ _ hk17 _ h
      · have h := h.2 c
        refine zr_iload_n C 1 dX5_findFault_44 rfl rfl ?_
        exact R _ _ _ _ h dX5_findFault_45
theorem w_X5_findFault_l17 {G : zG} {X : zX} (C : zC G X cX5_findFault RX5 3 2) (N : Nat) (Q : Int32 → zMem → Prop) (R : zRI G X cX5_findFault Q)  : ∀ (n : Nat) (x1 : Int32) (M : zMem), f_X5_findFault_l17 N  Q n x1 M → zV G X M [(0, zR G 1), (1, .int x1)] [] 17 := by
  intro n
  induction n with
  | zero => intro x1 M h; exact h.elim
  | succ n ih =>
    intro x1 M h
    exact w_X5_findFault_b17 C N Q R   _ ih x1 M h
set_option maxHeartbeats 4000000 in
set_option maxRecDepth 100000 in
theorem c_X5_findFault (l : Launch) (G : zG) (N : Nat)  (M : zMem) (Q : Int32 → zMem → Prop) (h : f_X5_findFault N  M Q) : zMI l G yX5_findFault cX5_findFault 2 .int 3 [zR G 1] M Q := by
  refine zEI (by decide) (Nat.le_of_ble_eq_true rfl) (lv := [(0, zR G 1)]) rfl (fun X C R => ?_)
  have C : zC G X cX5_findFault RX5 3 2 := C
  unfold f_X5_findFault at h
  refine zr_aload_n C 0 dX5_findFault_0 rfl rfl ?_
  refine zr_iconst C (v := 0) dX5_findFault_1 (by decide) ?_
  refine zp_X5_22 C zo_1 dX5_findFault_2 ?_
  refine zr_letM (fun M1 hM1 => ?_)
  have h := h M1 hM1
  refine zr_aload_n C 0 dX5_findFault_5 rfl rfl ?_
  refine zr_iconst C (v := -1) dX5_findFault_6 (by decide) ?_
  refine zp_X5_25 C zo_1 dX5_findFault_7 ?_
  refine zr_letM (fun M2 hM2 => ?_)
  have h := h M2 hM2
  refine zr_aload_n C 0 dX5_findFault_10 rfl rfl ?_
  refine zr_iconst C (v := 0) dX5_findFault_11 (by decide) ?_
  refine zp_X5_28 C zo_1 zb_0 dX5_findFault_12 ?_
  refine zr_letM (fun M3 hM3 => ?_)
  have h := h M3 hM3
  refine zr_iconst C (v := 0) dX5_findFault_15 (by decide) ?_
  refine zr_istore_n C [1, 0] dX5_findFault_16 rfl (by decide) rfl (lv' := [(0, zR G 1), (1, .int (0 : Int32))]) ?_
  exact w_X5_findFault_l17 C N Q R  N _ _ h
/-! X6_adds -/
set_option maxHeartbeats 4000000 in
set_option maxRecDepth 100000 in
theorem c_X6_adds (l : Launch) (G : zG) (N : Nat) (x1 : Int32) (x2 : Int32) (M : zMem) (Q : Int32 → zMem → Prop) (h : f_X6_adds N x1 x2 M Q) : zMI l G yX6_adds cX6_adds 3 .int 0 [zR G 35, .int x1, .int x2] M Q := by
  refine zEI (by decide) (Nat.le_of_ble_eq_true rfl) (lv := [(0, zR G 35), (1, .int x1), (2, .int x2)]) rfl (fun X C R => ?_)
  have C : zC G X cX6_adds RX6 0 3 := C
  unfold f_X6_adds at h
  refine zr_aload_n C 0 dX6_adds_0 rfl rfl ?_
  refine zg_X6_18 C zo_35 dX6_adds_1 ?_
  refine zr_bipush C (v := 6) dX6_adds_4 (by decide) ?_
  refine zr_icmp_ge C 39 dX6_adds_6 (by decide) (fun c => ?_) (fun c => ?_)
  · have h := h.1 c
    refine zr_aload_n C 0 dX6_adds_39 rfl rfl ?_
    refine zg_X6_18 C zo_35 dX6_adds_40 ?_
    exact R _ _ _ _ h dX6_adds_43
  · have h := h.2 c
    refine zr_aload_n C 0 dX6_adds_9 rfl rfl ?_
    refine zg_X6_9 C zo_35 dX6_adds_10 ?_
    refine zr_aload_n C 0 dX6_adds_13 rfl rfl ?_
    refine zg_X6_18 C zo_35 dX6_adds_14 ?_
    refine zr_iload_n C 1 dX6_adds_17 rfl rfl ?_
    refine zr_iast C za_36 h.1 dX6_adds_18 ?_
    have h := h.2
    refine zr_letM (fun M1 hM1 => ?_)
    have h := h M1 hM1
    refine zr_aload_n C 0 dX6_adds_19 rfl rfl ?_
    refine zg_X6_15 C zo_35 dX6_adds_20 ?_
    refine zr_aload_n C 0 dX6_adds_23 rfl rfl ?_
    refine zg_X6_18 C zo_35 dX6_adds_24 ?_
    refine zr_iload_n C 2 dX6_adds_27 rfl rfl ?_
    refine zr_iast C za_37 h.1 dX6_adds_28 ?_
    have h := h.2
    refine zr_letM (fun M2 hM2 => ?_)
    have h := h M2 hM2
    refine zr_aload_n C 0 dX6_adds_29 rfl rfl ?_
    refine zr_dup C rfl dX6_adds_30 ?_
    refine zg_X6_18 C zo_35 dX6_adds_31 ?_
    refine zr_iconst C (v := 1) dX6_adds_34 (by decide) ?_
    refine zr_iadd C dX6_adds_35 ?_
    refine zp_X6_18 C zo_35 dX6_adds_36 ?_
    refine zr_letM (fun M3 hM3 => ?_)
    have h := h M3 hM3
    refine zr_aload_n C 0 dX6_adds_39 rfl rfl ?_
    refine zg_X6_18 C zo_35 dX6_adds_40 ?_
    exact R _ _ _ _ h dX6_adds_43
/-! X7_type -/
set_option maxHeartbeats 4000000 in
set_option maxRecDepth 100000 in
theorem c_X7_type (l : Launch) (G : zG) (N : Nat) (x1 : Int32) (M : zMem) (Q : Int32 → zMem → Prop) (h : f_X7_type N x1 M Q) : zMI l G yX7_type cX7_type 2 .int 1 [zR G 0, .int x1] M Q := by
  refine zEI (by decide) (Nat.le_of_ble_eq_true rfl) (lv := [(0, zR G 0), (1, .int x1)]) rfl (fun X C R => ?_)
  have C : zC G X cX7_type RX7 1 2 := C
  unfold f_X7_type at h
  refine zr_iload_n C 1 dX7_type_0 rfl rfl ?_
  refine zr_if_lt C 11 dX7_type_1 (by decide) (fun c => ?_) (fun c => ?_)
  · have h := h.1 c
    refine zr_iconst C (v := -1) dX7_type_11 (by decide) ?_
    exact R _ _ _ _ h dX7_type_12
  · have h := h.2 c
    refine zr_iload_n C 1 dX7_type_4 rfl rfl ?_
    refine zr_sipush C (v := 255) dX7_type_5 (by decide) ?_
    refine zr_icmp_le C 13 dX7_type_8 (by decide) (fun c => ?_) (fun c => ?_)
    · have h := h.1 c
      refine zr_aload_n C 0 dX7_type_13 rfl rfl ?_
      refine zg_X7_10 C zo_0 dX7_type_14 ?_
      refine zg_X7_55 C zo_1 dX7_type_17 ?_
      refine zr_sipush C (v := 130) dX7_type_20 (by decide) ?_
      refine zr_icmp_lt C 29 dX7_type_23 (by decide) (fun c => ?_) (fun c => ?_)
      · have h := h.1 c
        refine zr_aload_n C 0 dX7_type_29 rfl rfl ?_
        refine zg_X7_10 C zo_0 dX7_type_30 ?_
        refine zr_iload_n C 1 dX7_type_33 rfl rfl ?_
        refine zcI (zrunVN C (rest := []) (c_X5_adds X.2.1 G N _ _ _ h) zk_X5_adds znl_X7_58 (zRc_4 zo_1) (by decide) (by decide) rfl (Nat.le_of_ble_eq_true rfl) rfl dX7_type_34) (fun r1 M2 h => ?_)
        exact R _ _ _ _ h dX7_type_37
      · have h := h.2 c
        refine zr_bipush C (v := -3) dX7_type_26 (by decide) ?_
        exact R _ _ _ _ h dX7_type_28
    · have h := h.2 c
      refine zr_iconst C (v := -1) dX7_type_11 (by decide) ?_
      exact R _ _ _ _ h dX7_type_12
/-! X7_clear -/
set_option maxHeartbeats 4000000 in
set_option maxRecDepth 100000 in
theorem c_X7_clear (l : Launch) (G : zG) (N : Nat)  (M : zMem) (Q : Int32 → zMem → Prop) (h : f_X7_clear N  M Q) : zMI l G yX7_clear cX7_clear 1 .int 1 [zR G 0] M Q := by
  refine zEI (by decide) (Nat.le_of_ble_eq_true rfl) (lv := [(0, zR G 0)]) rfl (fun X C R => ?_)
  have C : zC G X cX7_clear RX7 1 1 := C
  unfold f_X7_clear at h
  refine zr_aload_n C 0 dX7_clear_0 rfl rfl ?_
  refine zg_X7_10 C zo_0 dX7_clear_1 ?_
  refine zcI (zrunVN C (rest := []) (c_X5_empties X.2.1 G N  _ _ h) zk_X5_empties znl_X7_62 (zRc_4 zo_1) (by decide) (by decide) rfl (Nat.le_of_ble_eq_true rfl) rfl dX7_clear_4) (fun r1 M2 h => ?_)
  exact R _ _ _ _ h dX7_clear_7
/-! X7_arcs -/
set_option maxHeartbeats 4000000 in
set_option maxRecDepth 100000 in
theorem w_X7_arcs_b39 {G : zG} {X : zX} (C : zC G X cX7_arcs RX7 4 3) (N : Nat) (Q : Int32 → zMem → Prop) (R : zRI G X cX7_arcs Q) (k39 : Int32 → zMem → Prop) (hk39 : ∀ (z2 : Int32) (M : zMem), k39 z2 M → zV G X M [(0, zR G 0), (2, .int z2)] [] 39) (x2 : Int32) (M : zMem) (h : f_X7_arcs_b39 N k39 x2 M Q) : zV G X M [(0, zR G 0), (2, .int x2)] [] 39 := by
  unfold f_X7_arcs_b39 at h
  refine zr_iload_n C 1 dX7_arcs_39 rfl rfl ?_
  refine zr_aload_n C 0 dX7_arcs_40 rfl rfl ?_
  refine zg_X7_23 C zo_0 dX7_arcs_41 ?_
  refine zr_icmp_ge C 73 dX7_arcs_44 (by decide) (fun c => ?_) (fun c => ?_)
  · have h := h.1 c
    refine zr_aload_n C 0 dX7_arcs_73 rfl rfl ?_
    refine zg_X7_30 C zo_0 dX7_arcs_74 ?_
    refine zr_iconst C (v := 0) dX7_arcs_77 (by decide) ?_
    refine zp_X7_80 C zo_29 dX7_arcs_78 ?_
    refine zr_letM (fun M6 hM6 => ?_)
    have h := h M6 hM6
    refine zr_aload_n C 0 dX7_arcs_81 rfl rfl ?_
    refine zg_X7_44 C zo_0 dX7_arcs_82 ?_
    refine zr_iconst C (v := 0) dX7_arcs_85 (by decide) ?_
    refine zp_X7_81 C zo_35 dX7_arcs_86 ?_
    refine zr_letM (fun M7 hM7 => ?_)
    have h := h M7 hM7
    refine zr_aload_n C 0 dX7_arcs_89 rfl rfl ?_
    refine zg_X7_37 C zo_0 dX7_arcs_90 ?_
    refine zcU (zrunVN C (rest := []) (c_X2_drop X.2.1 G N  _ _ h) zk_X2_drop znl_X7_82 (zRc_2 zo_32) (by decide) (by decide) rfl (Nat.le_of_ble_eq_true rfl) rfl dX7_arcs_93) (fun M9 h => ?_)
    refine zr_aload_n C 0 dX7_arcs_96 rfl rfl ?_
    refine zg_X7_51 C zo_0 dX7_arcs_97 ?_
    refine zcU (zrunVN C (rest := []) (c_X3_outdate X.2.1 G N  _ _ h) zk_X3_outdate znl_X7_85 (zRc_3 zo_38) (by decide) (by decide) rfl (Nat.le_of_ble_eq_true rfl) rfl dX7_arcs_100) (fun M11 h => ?_)
    refine zr_aload_n C 0 dX7_arcs_103 rfl rfl ?_
    refine zg_X7_23 C zo_0 dX7_arcs_104 ?_
    exact R _ _ _ _ h dX7_arcs_107
  · have h := h.2 c
    refine zr_aload_n C 0 dX7_arcs_47 rfl rfl ?_
    refine zg_X7_18 C zo_0 dX7_arcs_48 ?_
    refine zr_iload_n C 1 dX7_arcs_51 rfl rfl ?_
    have hi12 := h.1
    have h := h.2
    refine zr_aald C hi12 dX7_arcs_52 ?_
    refine zr_aload_n C 0 dX7_arcs_53 rfl rfl ?_
    refine zg_X7_10 C zo_0 dX7_arcs_54 ?_
    refine zg_X7_72 C zo_1 dX7_arcs_57 ?_
    refine zr_iload_n C 1 dX7_arcs_60 rfl rfl ?_
    refine zr_bipush C (v := 8) dX7_arcs_61 (by decide) ?_
    refine zr_imul C dX7_arcs_63 ?_
    refine zcU (zrunVN C (rest := []) (c_X0_takes X.2.1 G N _ (zkdAi hi12) _ za_3.1 _ _ _ h) zk_X0_takes znl_X7_76 (zRc_0 (zkdAi hi12)) (by decide) (by decide) rfl (Nat.le_of_ble_eq_true rfl) rfl dX7_arcs_64) (fun M14 h => ?_)
    obtain ⟨v15, hv15⟩ : ∃ y : Int32, y = x2 + (1 : Int32) := ⟨_, rfl⟩
    have h := h v15 hv15
    refine zr_iinc C 1 [1, 0] dX7_arcs_67 rfl (by rw [hv15]; rfl) (by decide) rfl (lv' := [(0, zR G 0), (2, .int v15)]) ?_
    refine zr_goto C 39 dX7_arcs_70 (by decide) ?_
    exact hk39 _ _ h
theorem w_X7_arcs_l39 {G : zG} {X : zX} (C : zC G X cX7_arcs RX7 4 3) (N : Nat) (Q : Int32 → zMem → Prop) (R : zRI G X cX7_arcs Q)  : ∀ (n : Nat) (x2 : Int32) (M : zMem), f_X7_arcs_l39 N  Q n x2 M → zV G X M [(0, zR G 0), (2, .int x2)] [] 39 := by
  intro n
  induction n with
  | zero => intro x2 M h; exact h.elim
  | succ n ih =>
    intro x2 M h
    exact w_X7_arcs_b39 C N Q R   _ ih x2 M h
set_option maxHeartbeats 4000000 in
set_option maxRecDepth 100000 in
theorem c_X7_arcs (l : Launch) (G : zG) (N : Nat)  (M : zMem) (Q : Int32 → zMem → Prop) (h : f_X7_arcs N  M Q) : zMI l G yX7_arcs cX7_arcs 3 .int 4 [zR G 0] M Q := by
  refine zEI (by decide) (Nat.le_of_ble_eq_true rfl) (lv := [(0, zR G 0)]) rfl (fun X C R => ?_)
  have C : zC G X cX7_arcs RX7 4 3 := C
  unfold f_X7_arcs at h
  refine zr_aload_n C 0 dX7_arcs_0 rfl rfl ?_
  refine zg_X7_10 C zo_0 dX7_arcs_1 ?_
  refine zcI (zrunVN C (rest := []) (c_X5_findFault X.2.1 G N  _ _ h) zk_X5_findFault znl_X7_66 (zRc_4 zo_1) (by decide) (by decide) rfl (Nat.le_of_ble_eq_true rfl) rfl dX7_arcs_4) (fun r1 M2 h => ?_)
  refine zr_istore_n C [1, 0] dX7_arcs_7 rfl (by decide) rfl (lv' := [(0, zR G 0), (1, .int r1)]) ?_
  refine zr_iload_n C 1 dX7_arcs_8 rfl rfl ?_
  refine zr_iconst C (v := -1) dX7_arcs_9 (by decide) ?_
  refine zr_icmp_eq C 18 dX7_arcs_10 (by decide) (fun c => ?_) (fun c => ?_)
  · have h := h.1 c
    refine zr_aload_n C 0 dX7_arcs_18 rfl rfl ?_
    refine zg_X7_10 C zo_0 dX7_arcs_19 ?_
    refine zcI (zrunVN C (rest := []) (c_X5_empties X.2.1 G N  _ _ h) zk_X5_empties znl_X7_62 (zRc_4 zo_1) (by decide) (by decide) rfl (Nat.le_of_ble_eq_true rfl) rfl dX7_arcs_22) (fun r3 M4 h => ?_)
    refine zr_pop C rfl dX7_arcs_25 ?_
    refine zr_aload_n C 0 dX7_arcs_26 rfl rfl ?_
    refine zr_aload_n C 0 dX7_arcs_27 rfl rfl ?_
    refine zg_X7_10 C zo_0 dX7_arcs_28 ?_
    refine zg_X7_69 C zo_1 dX7_arcs_31 ?_
    refine zp_X7_23 C zo_0 dX7_arcs_34 ?_
    refine zr_letM (fun M5 hM5 => ?_)
    have h := h M5 hM5
    refine zr_iconst C (v := 0) dX7_arcs_37 (by decide) ?_
    refine zr_istore_n C [1, 0] dX7_arcs_38 rfl (by decide) rfl (lv' := [(0, zR G 0), (2, .int (0 : Int32))]) ?_
    exact w_X7_arcs_l39 C N Q R  N _ _ h
  · have h := h.2 c
    refine zr_bipush C (v := -10) dX7_arcs_13 (by decide) ?_
    refine zr_iload_n C 1 dX7_arcs_15 rfl rfl ?_
    refine zr_isub C dX7_arcs_16 ?_
    exact R _ _ _ _ h dX7_arcs_17
/-! X7_isArc -/
set_option maxHeartbeats 4000000 in
set_option maxRecDepth 100000 in
theorem c_X7_isArc (l : Launch) (G : zG) (N : Nat) (x1 : Int32) (M : zMem) (Q : Int32 → zMem → Prop) (h : f_X7_isArc N x1 M Q) : zMI l G yX7_isArc cX7_isArc 2 .boolean 0 [zR G 0, .int x1] M Q := by
  refine zEZ (by decide) (Nat.le_of_ble_eq_true rfl) (lv := [(0, zR G 0), (1, .int x1)]) rfl (fun X C R => ?_)
  have C : zC G X cX7_isArc RX7 0 2 := C
  unfold f_X7_isArc at h
  refine zr_iload_n C 1 dX7_isArc_0 rfl rfl ?_
  refine zr_if_lt C 16 dX7_isArc_1 (by decide) (fun c => ?_) (fun c => ?_)
  · have h := h.1 c
    refine zr_iconst C (v := 0) dX7_isArc_16 (by decide) ?_
    exact R _ _ _ _ zb_0.1 h dX7_isArc_17
  · have h := h.2 c
    refine zr_iload_n C 1 dX7_isArc_4 rfl rfl ?_
    refine zr_aload_n C 0 dX7_isArc_5 rfl rfl ?_
    refine zg_X7_23 C zo_0 dX7_isArc_6 ?_
    refine zr_icmp_ge C 16 dX7_isArc_9 (by decide) (fun c => ?_) (fun c => ?_)
    · have h := h.1 c
      refine zr_iconst C (v := 0) dX7_isArc_16 (by decide) ?_
      exact R _ _ _ _ zb_0.1 h dX7_isArc_17
    · have h := h.2 c
      refine zr_iconst C (v := 1) dX7_isArc_12 (by decide) ?_
      refine zr_goto C 17 dX7_isArc_13 (by decide) ?_
      exact R _ _ _ _ zb_1.1 h dX7_isArc_17
/-! X7_isAxis -/
set_option maxHeartbeats 4000000 in
set_option maxRecDepth 100000 in
theorem c_X7_isAxis (l : Launch) (G : zG) (N : Nat) (x0 : Int32) (M : zMem) (Q : Int32 → zMem → Prop) (h : f_X7_isAxis N x0 M Q) : zMI l G yX7_isAxis cX7_isAxis 1 .boolean 0 [.int x0] M Q := by
  refine zEZ (by decide) (Nat.le_of_ble_eq_true rfl) (lv := [(0, .int x0)]) rfl (fun X C R => ?_)
  have C : zC G X cX7_isAxis RX7 0 1 := C
  unfold f_X7_isAxis at h
  refine zr_iload_n C 0 dX7_isAxis_0 rfl rfl ?_
  refine zr_if_eq C 9 dX7_isAxis_1 (by decide) (fun c => ?_) (fun c => ?_)
  · have h := h.1 c
    refine zr_iconst C (v := 1) dX7_isAxis_9 (by decide) ?_
    refine zr_goto C 14 dX7_isAxis_10 (by decide) ?_
    exact R _ _ _ _ zb_1.1 h dX7_isAxis_14
  · have h := h.2 c
    refine zr_iload_n C 0 dX7_isAxis_4 rfl rfl ?_
    refine zr_iconst C (v := 1) dX7_isAxis_5 (by decide) ?_
    refine zr_icmp_ne C 13 dX7_isAxis_6 (by decide) (fun c => ?_) (fun c => ?_)
    · have h := h.1 c
      refine zr_iconst C (v := 0) dX7_isAxis_13 (by decide) ?_
      exact R _ _ _ _ zb_0.1 h dX7_isAxis_14
    · have h := h.2 c
      refine zr_iconst C (v := 1) dX7_isAxis_9 (by decide) ?_
      refine zr_goto C 14 dX7_isAxis_10 (by decide) ?_
      exact R _ _ _ _ zb_1.1 h dX7_isAxis_14
/-! X7_isNode -/
set_option maxHeartbeats 4000000 in
set_option maxRecDepth 100000 in
theorem c_X7_isNode (l : Launch) (G : zG) (N : Nat) (x0 : Int32) (M : zMem) (Q : Int32 → zMem → Prop) (h : f_X7_isNode N x0 M Q) : zMI l G yX7_isNode cX7_isNode 1 .boolean 0 [.int x0] M Q := by
  refine zEZ (by decide) (Nat.le_of_ble_eq_true rfl) (lv := [(0, .int x0)]) rfl (fun X C R => ?_)
  have C : zC G X cX7_isNode RX7 0 1 := C
  unfold f_X7_isNode at h
  refine zr_iload_n C 0 dX7_isNode_0 rfl rfl ?_
  refine zr_iconst C (v := 1) dX7_isNode_1 (by decide) ?_
  refine zr_icmp_lt C 15 dX7_isNode_2 (by decide) (fun c => ?_) (fun c => ?_)
  · have h := h.1 c
    refine zr_iconst C (v := 0) dX7_isNode_15 (by decide) ?_
    exact R _ _ _ _ zb_0.1 h dX7_isNode_16
  · have h := h.2 c
    refine zr_iload_n C 0 dX7_isNode_5 rfl rfl ?_
    refine zr_bipush C (v := 63) dX7_isNode_6 (by decide) ?_
    refine zr_icmp_gt C 15 dX7_isNode_8 (by decide) (fun c => ?_) (fun c => ?_)
    · have h := h.1 c
      refine zr_iconst C (v := 0) dX7_isNode_15 (by decide) ?_
      exact R _ _ _ _ zb_0.1 h dX7_isNode_16
    · have h := h.2 c
      refine zr_iconst C (v := 1) dX7_isNode_11 (by decide) ?_
      refine zr_goto C 16 dX7_isNode_12 (by decide) ?_
      exact R _ _ _ _ zb_1.1 h dX7_isNode_16
/-! X7_isPoint -/
set_option maxHeartbeats 4000000 in
set_option maxRecDepth 100000 in
theorem c_X7_isPoint (l : Launch) (G : zG) (N : Nat) (x0 : Int32) (M : zMem) (Q : Int32 → zMem → Prop) (h : f_X7_isPoint N x0 M Q) : zMI l G yX7_isPoint cX7_isPoint 1 .boolean 0 [.int x0] M Q := by
  refine zEZ (by decide) (Nat.le_of_ble_eq_true rfl) (lv := [(0, .int x0)]) rfl (fun X C R => ?_)
  have C : zC G X cX7_isPoint RX7 0 1 := C
  unfold f_X7_isPoint at h
  refine zr_iload_n C 0 dX7_isPoint_0 rfl rfl ?_
  refine zr_if_lt C 13 dX7_isPoint_1 (by decide) (fun c => ?_) (fun c => ?_)
  · have h := h.1 c
    refine zr_iconst C (v := 0) dX7_isPoint_13 (by decide) ?_
    exact R _ _ _ _ zb_0.1 h dX7_isPoint_14
  · have h := h.2 c
    refine zr_iload_n C 0 dX7_isPoint_4 rfl rfl ?_
    refine zr_iconst C (v := 4) dX7_isPoint_5 (by decide) ?_
    refine zr_icmp_ge C 13 dX7_isPoint_6 (by decide) (fun c => ?_) (fun c => ?_)
    · have h := h.1 c
      refine zr_iconst C (v := 0) dX7_isPoint_13 (by decide) ?_
      exact R _ _ _ _ zb_0.1 h dX7_isPoint_14
    · have h := h.2 c
      refine zr_iconst C (v := 1) dX7_isPoint_9 (by decide) ?_
      refine zr_goto C 14 dX7_isPoint_10 (by decide) ?_
      exact R _ _ _ _ zb_1.1 h dX7_isPoint_14
/-! X7_point -/
set_option maxHeartbeats 4000000 in
set_option maxRecDepth 100000 in
theorem c_X7_point (l : Launch) (G : zG) (N : Nat) (x1 : Int32) (x2 : Int32) (x3 : Int32) (x4 : Int32) (M : zMem) (Q : Int32 → zMem → Prop) (h : f_X7_point N x1 x2 x3 x4 M Q) : zMI l G yX7_point cX7_point 5 .int 1 [zR G 0, .int x1, .int x2, .int x3, .int x4] M Q := by
  refine zEI (by decide) (Nat.le_of_ble_eq_true rfl) (lv := [(0, zR G 0), (1, .int x1), (2, .int x2), (3, .int x3), (4, .int x4)]) rfl (fun X C R => ?_)
  have C : zC G X cX7_point RX7 1 5 := C
  unfold f_X7_point at h
  refine zr_aload_n C 0 dX7_point_0 rfl rfl ?_
  refine zr_iload_n C 1 dX7_point_1 rfl rfl ?_
  refine zcI (zrunV C (rest := []) (c_X7_isArc X.2.1 G N _ _ _ h) zk_X7_isArc zl_X7_88 (zRc_6 zo_0) (by decide) (by decide) rfl (Nat.le_of_ble_eq_true rfl) rfl dX7_point_2) (fun r1 M2 h => ?_)
  refine zr_if_eq C 30 dX7_point_5 (by decide) (fun c => ?_) (fun c => ?_)
  · have h := h.1 c
    refine zr_ldc C zkc_X7_101 dX7_point_30 ?_
    exact R _ _ _ _ h dX7_point_32
  · have h := h.2 c
    refine zr_iload_n C 2 dX7_point_8 rfl rfl ?_
    refine zcI (zrunS C (rest := []) (c_X7_isNode X.2.1 G N _ _ _ h) zk_X7_isNode zl_X7_92 (by decide) (by decide) rfl (Nat.le_of_ble_eq_true rfl) rfl dX7_point_9) (fun r3 M4 h => ?_)
    refine zr_if_eq C 30 dX7_point_12 (by decide) (fun c => ?_) (fun c => ?_)
    · have h := h.1 c
      refine zr_ldc C zkc_X7_101 dX7_point_30 ?_
      exact R _ _ _ _ h dX7_point_32
    · have h := h.2 c
      refine zr_iload_n C 3 dX7_point_15 rfl rfl ?_
      refine zcI (zrunS C (rest := []) (c_X7_isPoint X.2.1 G N _ _ _ h) zk_X7_isPoint zl_X7_95 (by decide) (by decide) rfl (Nat.le_of_ble_eq_true rfl) rfl dX7_point_16) (fun r5 M6 h => ?_)
      refine zr_if_eq C 30 dX7_point_19 (by decide) (fun c => ?_) (fun c => ?_)
      · have h := h.1 c
        refine zr_ldc C zkc_X7_101 dX7_point_30 ?_
        exact R _ _ _ _ h dX7_point_32
      · have h := h.2 c
        refine zr_iload C 4 dX7_point_22 rfl ?_
        refine zcI (zrunS C (rest := []) (c_X7_isAxis X.2.1 G N _ _ _ h) zk_X7_isAxis zl_X7_98 (by decide) (by decide) rfl (Nat.le_of_ble_eq_true rfl) rfl dX7_point_24) (fun r7 M8 h => ?_)
        refine zr_if_ne C 33 dX7_point_27 (by decide) (fun c => ?_) (fun c => ?_)
        · have h := h.1 c
          refine zr_aload_n C 0 dX7_point_33 rfl rfl ?_
          refine zg_X7_18 C zo_0 dX7_point_34 ?_
          refine zr_iload_n C 1 dX7_point_37 rfl rfl ?_
          have hi9 := h.1
          have h := h.2
          refine zr_aald C hi9 dX7_point_38 ?_
          refine zr_iload_n C 2 dX7_point_39 rfl rfl ?_
          refine zr_iload_n C 3 dX7_point_40 rfl rfl ?_
          refine zr_iload C 4 dX7_point_41 rfl ?_
          refine zcI (zrunVN C (rest := []) (c_X0_at X.2.1 G N _ (zkdAi hi9) _ _ _ _ _ h) zk_X0_at znl_X7_102 (zRc_0 (zkdAi hi9)) (by decide) (by decide) rfl (Nat.le_of_ble_eq_true rfl) rfl dX7_point_43) (fun r10 M11 h => ?_)
          exact R _ _ _ _ h dX7_point_46
        · have h := h.2 c
          refine zr_ldc C zkc_X7_101 dX7_point_30 ?_
          exact R _ _ _ _ h dX7_point_32
/-! X7_startChange -/
set_option maxHeartbeats 4000000 in
set_option maxRecDepth 100000 in
theorem c_X7_startChange (l : Launch) (G : zG) (N : Nat) (x1 : Int32) (M : zMem) (Q : zMem → Prop) (h : f_X7_startChange N x1 M Q) : zMU l G yX7_startChange cX7_startChange 2 3 [zR G 0, .int x1] M Q := by
  refine zEU (by decide) (Nat.le_of_ble_eq_true rfl) (lv := [(0, zR G 0), (1, .int x1)]) rfl (fun X C R => ?_)
  have C : zC G X cX7_startChange RX7 3 2 := C
  unfold f_X7_startChange at h
  refine zr_aload_n C 0 dX7_startChange_0 rfl rfl ?_
  refine zg_X7_30 C zo_0 dX7_startChange_1 ?_
  refine zr_iload_n C 1 dX7_startChange_4 rfl rfl ?_
  refine zr_aload_n C 0 dX7_startChange_5 rfl rfl ?_
  refine zg_X7_18 C zo_0 dX7_startChange_6 ?_
  refine zr_iload_n C 1 dX7_startChange_9 rfl rfl ?_
  have hi1 := h.1
  have h := h.2
  refine zr_aald C hi1 dX7_startChange_10 ?_
  refine zg_X7_110 C (zkdAi hi1) dX7_startChange_11 ?_
  refine zcU (zrunVN C (rest := []) (c_X1_adds X.2.1 G N _ _ (zkd0_1 (zkdAi hi1)).1 _ _ h) zk_X1_adds znl_X7_242 (zRc_1 zo_29) (by decide) (by decide) rfl (Nat.le_of_ble_eq_true rfl) rfl dX7_startChange_14) (fun M3 h => ?_)
  refine zr_aload_n C 0 dX7_startChange_17 rfl rfl ?_
  refine zg_X7_51 C zo_0 dX7_startChange_18 ?_
  refine zcU (zrunVN C (rest := []) (c_X3_outdate X.2.1 G N  _ _ h) zk_X3_outdate znl_X7_85 (zRc_3 zo_38) (by decide) (by decide) rfl (Nat.le_of_ble_eq_true rfl) rfl dX7_startChange_21) (fun M5 h => ?_)
  exact R _ _ _ h dX7_startChange_24
/-! X7_moves -/
set_option maxHeartbeats 4000000 in
set_option maxRecDepth 100000 in
theorem w_X7_moves_b74 {G : zG} {X : zX} (C : zC G X cX7_moves RX7 4 6) (N : Nat) (Q : Int32 → zMem → Prop) (R : zRI G X cX7_moves Q) (x1 : Int32) (x2 : Int32) (x3 : Int32) (x4 : Int32) (a5 : Nat) (ha5 : zkd a5 = 0) (M : zMem) (h : f_X7_moves_b74 N x1 x2 x3 x4 a5 M Q) : zV G X M [(0, zR G 0), (1, .int x1), (2, .int x2), (3, .int x3), (4, .int x4), (5, zR G a5)] [] 74 := by
  unfold f_X7_moves_b74 at h
  refine zr_aload_n C 0 dX7_moves_74 rfl rfl ?_
  refine zr_iload_n C 1 dX7_moves_75 rfl rfl ?_
  refine zcU (zrunV C (rest := []) (c_X7_startChange X.2.1 G N _ _ _ h) zk_X7_startChange zl_X7_113 (zRc_6 zo_0) (by decide) (by decide) rfl (Nat.le_of_ble_eq_true rfl) rfl dX7_moves_76) (fun M11 h => ?_)
  refine zr_aload C 5 dX7_moves_79 rfl ?_
  refine zg_X7_110 C ha5 dX7_moves_81 ?_
  refine zr_iconst C (v := 2) dX7_moves_84 (by decide) ?_
  refine zr_iload_n C 2 dX7_moves_85 rfl rfl ?_
  refine zr_imul C dX7_moves_86 ?_
  refine zr_iload_n C 3 dX7_moves_87 rfl rfl ?_
  refine zr_iast C (zkd0_1 ha5) h.1 dX7_moves_88 ?_
  have h := h.2
  refine zr_letM (fun M12 hM12 => ?_)
  have h := h M12 hM12
  refine zr_aload C 5 dX7_moves_89 rfl ?_
  refine zg_X7_110 C ha5 dX7_moves_91 ?_
  refine zr_iconst C (v := 2) dX7_moves_94 (by decide) ?_
  refine zr_iload_n C 2 dX7_moves_95 rfl rfl ?_
  refine zr_imul C dX7_moves_96 ?_
  refine zr_iconst C (v := 1) dX7_moves_97 (by decide) ?_
  refine zr_iadd C dX7_moves_98 ?_
  refine zr_iload C 4 dX7_moves_99 rfl ?_
  refine zr_iast C (zkd0_1 ha5) h.1 dX7_moves_101 ?_
  have h := h.2
  refine zr_letM (fun M13 hM13 => ?_)
  have h := h M13 hM13
  refine zr_aload C 5 dX7_moves_102 rfl ?_
  refine zcU (zrunVN C (rest := []) (c_X0_halveAll X.2.1 G N _ ha5 _ _ h) zk_X0_halveAll znl_X7_117 (zRc_0 ha5) (by decide) (by decide) rfl (Nat.le_of_ble_eq_true rfl) rfl dX7_moves_104) (fun M15 h => ?_)
  refine zr_iconst C (v := 1) dX7_moves_107 (by decide) ?_
  exact R _ _ _ _ h dX7_moves_108
set_option maxHeartbeats 4000000 in
set_option maxRecDepth 100000 in
theorem c_X7_moves (l : Launch) (G : zG) (N : Nat) (x1 : Int32) (x2 : Int32) (x3 : Int32) (x4 : Int32) (M : zMem) (Q : Int32 → zMem → Prop) (h : f_X7_moves N x1 x2 x3 x4 M Q) : zMI l G yX7_moves cX7_moves 6 .int 4 [zR G 0, .int x1, .int x2, .int x3, .int x4] M Q := by
  refine zEI (by decide) (Nat.le_of_ble_eq_true rfl) (lv := [(0, zR G 0), (1, .int x1), (2, .int x2), (3, .int x3), (4, .int x4)]) rfl (fun X C R => ?_)
  have C : zC G X cX7_moves RX7 4 6 := C
  unfold f_X7_moves at h
  refine zr_aload_n C 0 dX7_moves_0 rfl rfl ?_
  refine zr_iload_n C 1 dX7_moves_1 rfl rfl ?_
  refine zcI (zrunV C (rest := []) (c_X7_isArc X.2.1 G N _ _ _ h) zk_X7_isArc zl_X7_88 (zRc_6 zo_0) (by decide) (by decide) rfl (Nat.le_of_ble_eq_true rfl) rfl dX7_moves_2) (fun r1 M2 h => ?_)
  refine zr_if_eq C 32 dX7_moves_5 (by decide) (fun c => ?_) (fun c => ?_)
  · have h := h.1 c
    refine zr_iconst C (v := -1) dX7_moves_32 (by decide) ?_
    exact R _ _ _ _ h dX7_moves_33
  · have h := h.2 c
    refine zr_iload_n C 2 dX7_moves_8 rfl rfl ?_
    refine zcI (zrunS C (rest := []) (c_X7_isPoint X.2.1 G N _ _ _ h) zk_X7_isPoint zl_X7_95 (by decide) (by decide) rfl (Nat.le_of_ble_eq_true rfl) rfl dX7_moves_9) (fun r3 M4 h => ?_)
    refine zr_if_eq C 32 dX7_moves_12 (by decide) (fun c => ?_) (fun c => ?_)
    · have h := h.1 c
      refine zr_iconst C (v := -1) dX7_moves_32 (by decide) ?_
      exact R _ _ _ _ h dX7_moves_33
    · have h := h.2 c
      refine zr_iload_n C 3 dX7_moves_15 rfl rfl ?_
      refine zr_i2l C dX7_moves_16 ?_
      refine zcI (zrunS C (rest := []) (c_X7_isCoordinate X.2.1 G N _ _ _ h) zk_X7_isCoordinate zl_X7_106 (by decide) (by decide) rfl (Nat.le_of_ble_eq_true rfl) rfl dX7_moves_17) (fun r5 M6 h => ?_)
      refine zr_if_eq C 32 dX7_moves_20 (by decide) (fun c => ?_) (fun c => ?_)
      · have h := h.1 c
        refine zr_iconst C (v := -1) dX7_moves_32 (by decide) ?_
        exact R _ _ _ _ h dX7_moves_33
      · have h := h.2 c
        refine zr_iload C 4 dX7_moves_23 rfl ?_
        refine zr_i2l C dX7_moves_25 ?_
        refine zcI (zrunS C (rest := []) (c_X7_isCoordinate X.2.1 G N _ _ _ h) zk_X7_isCoordinate zl_X7_106 (by decide) (by decide) rfl (Nat.le_of_ble_eq_true rfl) rfl dX7_moves_26) (fun r7 M8 h => ?_)
        refine zr_if_ne C 34 dX7_moves_29 (by decide) (fun c => ?_) (fun c => ?_)
        · have h := h.1 c
          refine zr_aload_n C 0 dX7_moves_34 rfl rfl ?_
          refine zg_X7_18 C zo_0 dX7_moves_35 ?_
          refine zr_iload_n C 1 dX7_moves_38 rfl rfl ?_
          have hi9 := h.1
          have h := h.2
          refine zr_aald C hi9 dX7_moves_39 ?_
          refine zr_astore C [1, 2, 3, 4, 5, 0] dX7_moves_40 (by decide) rfl (lv' := [(0, zR G 0), (1, .int x1), (2, .int x2), (3, .int x3), (4, .int x4), (5, zR G (5 + 6 * x1.toNatClampNeg))]) ?_
          refine zr_aload C 5 dX7_moves_42 rfl ?_
          refine zg_X7_110 C (zkdAi hi9) dX7_moves_44 ?_
          refine zr_iconst C (v := 2) dX7_moves_47 (by decide) ?_
          refine zr_iload_n C 2 dX7_moves_48 rfl rfl ?_
          refine zr_imul C dX7_moves_49 ?_
          refine zr_iald C (zkd0_1 (zkdAi hi9)) h.1 dX7_moves_50 ?_
          have h := h.2
          refine zr_iload_n C 3 dX7_moves_51 rfl rfl ?_
          refine zr_icmp_ne C 74 dX7_moves_52 (by decide) (fun c => ?_) (fun c => ?_)
          · have h := h.1 c
            exact w_X7_moves_b74 C N Q R _ _ _ _ _ (zkdAi hi9) _ h
          · have h := h.2 c
            refine zr_aload C 5 dX7_moves_55 rfl ?_
            refine zg_X7_110 C (zkdAi hi9) dX7_moves_57 ?_
            refine zr_iconst C (v := 2) dX7_moves_60 (by decide) ?_
            refine zr_iload_n C 2 dX7_moves_61 rfl rfl ?_
            refine zr_imul C dX7_moves_62 ?_
            refine zr_iconst C (v := 1) dX7_moves_63 (by decide) ?_
            refine zr_iadd C dX7_moves_64 ?_
            refine zr_iald C (zkd0_1 (zkdAi hi9)) h.1 dX7_moves_65 ?_
            have h := h.2
            refine zr_iload C 4 dX7_moves_66 rfl ?_
            refine zr_icmp_ne C 74 dX7_moves_68 (by decide) (fun c => ?_) (fun c => ?_)
            · have h := h.1 c
              exact w_X7_moves_b74 C N Q R _ _ _ _ _ (zkdAi hi9) _ h
            · have h := h.2 c
              refine zr_bipush C (v := -2) dX7_moves_71 (by decide) ?_
              exact R _ _ _ _ h dX7_moves_73
        · have h := h.2 c
          refine zr_iconst C (v := -1) dX7_moves_32 (by decide) ?_
          exact R _ _ _ _ h dX7_moves_33
/-! X7_shifts -/
set_option maxHeartbeats 4000000 in
set_option maxRecDepth 100000 in
theorem w_X7_shifts_b35 {G : zG} {X : zX} (C : zC G X cX7_shifts RX7 4 4) (N : Nat) (Q : Int32 → zMem → Prop) (R : zRI G X cX7_shifts Q) (x1 : Int32) (x2 : Int32) (x3 : Int32) (M : zMem) (h : f_X7_shifts_b35 N x1 x2 x3 M Q) : zV G X M [(0, zR G 0), (1, .int x1), (2, .int x2), (3, .int x3)] [] 35 := by
  unfold f_X7_shifts_b35 at h
  refine zr_aload_n C 0 dX7_shifts_35 rfl rfl ?_
  refine zr_iload_n C 1 dX7_shifts_36 rfl rfl ?_
  refine zcU (zrunV C (rest := []) (c_X7_startChange X.2.1 G N _ _ _ h) zk_X7_startChange zl_X7_113 (zRc_6 zo_0) (by decide) (by decide) rfl (Nat.le_of_ble_eq_true rfl) rfl dX7_shifts_37) (fun M7 h => ?_)
  refine zr_aload_n C 0 dX7_shifts_40 rfl rfl ?_
  refine zg_X7_18 C zo_0 dX7_shifts_41 ?_
  refine zr_iload_n C 1 dX7_shifts_44 rfl rfl ?_
  have hi8 := h.1
  have h := h.2
  refine zr_aald C hi8 dX7_shifts_45 ?_
  refine zr_iload_n C 2 dX7_shifts_46 rfl rfl ?_
  refine zr_iload_n C 3 dX7_shifts_47 rfl rfl ?_
  refine zcU (zrunVN C (rest := []) (c_X0_shiftAll X.2.1 G N _ (zkdAi hi8) _ _ _ _ h) zk_X0_shiftAll znl_X7_124 (zRc_0 (zkdAi hi8)) (by decide) (by decide) rfl (Nat.le_of_ble_eq_true rfl) rfl dX7_shifts_48) (fun M10 h => ?_)
  refine zr_iconst C (v := 1) dX7_shifts_51 (by decide) ?_
  exact R _ _ _ _ h dX7_shifts_52
set_option maxHeartbeats 4000000 in
set_option maxRecDepth 100000 in
theorem c_X7_shifts (l : Launch) (G : zG) (N : Nat) (x1 : Int32) (x2 : Int32) (x3 : Int32) (M : zMem) (Q : Int32 → zMem → Prop) (h : f_X7_shifts N x1 x2 x3 M Q) : zMI l G yX7_shifts cX7_shifts 4 .int 4 [zR G 0, .int x1, .int x2, .int x3] M Q := by
  refine zEI (by decide) (Nat.le_of_ble_eq_true rfl) (lv := [(0, zR G 0), (1, .int x1), (2, .int x2), (3, .int x3)]) rfl (fun X C R => ?_)
  have C : zC G X cX7_shifts RX7 4 4 := C
  unfold f_X7_shifts at h
  refine zr_aload_n C 0 dX7_shifts_0 rfl rfl ?_
  refine zr_iload_n C 1 dX7_shifts_1 rfl rfl ?_
  refine zcI (zrunV C (rest := []) (c_X7_isArc X.2.1 G N _ _ _ h) zk_X7_isArc zl_X7_88 (zRc_6 zo_0) (by decide) (by decide) rfl (Nat.le_of_ble_eq_true rfl) rfl dX7_shifts_2) (fun r1 M2 h => ?_)
  refine zr_if_eq C 22 dX7_shifts_5 (by decide) (fun c => ?_) (fun c => ?_)
  · have h := h.1 c
    refine zr_iconst C (v := -1) dX7_shifts_22 (by decide) ?_
    exact R _ _ _ _ h dX7_shifts_23
  · have h := h.2 c
    refine zr_aload_n C 0 dX7_shifts_8 rfl rfl ?_
    refine zg_X7_18 C zo_0 dX7_shifts_9 ?_
    refine zr_iload_n C 1 dX7_shifts_12 rfl rfl ?_
    have hi3 := h.1
    have h := h.2
    refine zr_aald C hi3 dX7_shifts_13 ?_
    refine zr_iload_n C 2 dX7_shifts_14 rfl rfl ?_
    refine zr_iload_n C 3 dX7_shifts_15 rfl rfl ?_
    refine zcI (zrunVN C (rest := []) (c_X0_canShift X.2.1 G N _ (zkdAi hi3) _ _ _ _ h) zk_X0_canShift znl_X7_120 (zRc_0 (zkdAi hi3)) (by decide) (by decide) rfl (Nat.le_of_ble_eq_true rfl) rfl dX7_shifts_16) (fun r4 M5 h => ?_)
    refine zr_if_ne C 24 dX7_shifts_19 (by decide) (fun c => ?_) (fun c => ?_)
    · have h := h.1 c
      refine zr_iload_n C 2 dX7_shifts_24 rfl rfl ?_
      refine zr_if_ne C 35 dX7_shifts_25 (by decide) (fun c => ?_) (fun c => ?_)
      · have h := h.1 c
        exact w_X7_shifts_b35 C N Q R _ _ _ _ h
      · have h := h.2 c
        refine zr_iload_n C 3 dX7_shifts_28 rfl rfl ?_
        refine zr_if_ne C 35 dX7_shifts_29 (by decide) (fun c => ?_) (fun c => ?_)
        · have h := h.1 c
          exact w_X7_shifts_b35 C N Q R _ _ _ _ h
        · have h := h.2 c
          refine zr_bipush C (v := -2) dX7_shifts_32 (by decide) ?_
          exact R _ _ _ _ h dX7_shifts_34
    · have h := h.2 c
      refine zr_iconst C (v := -1) dX7_shifts_22 (by decide) ?_
      exact R _ _ _ _ h dX7_shifts_23
/-! X7_reverses -/
set_option maxHeartbeats 4000000 in
set_option maxRecDepth 100000 in
theorem c_X7_reverses (l : Launch) (G : zG) (N : Nat) (x1 : Int32) (M : zMem) (Q : Int32 → zMem → Prop) (h : f_X7_reverses N x1 M Q) : zMI l G yX7_reverses cX7_reverses 2 .int 4 [zR G 0, .int x1] M Q := by
  refine zEI (by decide) (Nat.le_of_ble_eq_true rfl) (lv := [(0, zR G 0), (1, .int x1)]) rfl (fun X C R => ?_)
  have C : zC G X cX7_reverses RX7 4 2 := C
  unfold f_X7_reverses at h
  refine zr_aload_n C 0 dX7_reverses_0 rfl rfl ?_
  refine zr_iload_n C 1 dX7_reverses_1 rfl rfl ?_
  refine zcI (zrunV C (rest := []) (c_X7_isArc X.2.1 G N _ _ _ h) zk_X7_isArc zl_X7_88 (zRc_6 zo_0) (by decide) (by decide) rfl (Nat.le_of_ble_eq_true rfl) rfl dX7_reverses_2) (fun r1 M2 h => ?_)
  refine zr_if_ne C 10 dX7_reverses_5 (by decide) (fun c => ?_) (fun c => ?_)
  · have h := h.1 c
    refine zr_aload_n C 0 dX7_reverses_10 rfl rfl ?_
    refine zr_iload_n C 1 dX7_reverses_11 rfl rfl ?_
    refine zcU (zrunV C (rest := []) (c_X7_startChange X.2.1 G N _ _ _ h) zk_X7_startChange zl_X7_113 (zRc_6 zo_0) (by decide) (by decide) rfl (Nat.le_of_ble_eq_true rfl) rfl dX7_reverses_12) (fun M4 h => ?_)
    refine zr_aload_n C 0 dX7_reverses_15 rfl rfl ?_
    refine zg_X7_18 C zo_0 dX7_reverses_16 ?_
    refine zr_iload_n C 1 dX7_reverses_19 rfl rfl ?_
    have hi5 := h.1
    have h := h.2
    refine zr_aald C hi5 dX7_reverses_20 ?_
    refine zcU (zrunVN C (rest := []) (c_X0_turnRound X.2.1 G N _ (zkdAi hi5) _ _ h) zk_X0_turnRound znl_X7_128 (zRc_0 (zkdAi hi5)) (by decide) (by decide) rfl (Nat.le_of_ble_eq_true rfl) rfl dX7_reverses_21) (fun M7 h => ?_)
    refine zr_iconst C (v := 1) dX7_reverses_24 (by decide) ?_
    exact R _ _ _ _ h dX7_reverses_25
  · have h := h.2 c
    refine zr_iconst C (v := -1) dX7_reverses_8 (by decide) ?_
    exact R _ _ _ _ h dX7_reverses_9
/-! X7_undo -/
set_option maxHeartbeats 4000000 in
set_option maxRecDepth 100000 in
theorem c_X7_undo (l : Launch) (G : zG) (N : Nat)  (M : zMem) (Q : Int32 → zMem → Prop) (h : f_X7_undo N  M Q) : zMI l G yX7_undo cX7_undo 2 .int 4 [zR G 0] M Q := by
  refine zEI (by decide) (Nat.le_of_ble_eq_true rfl) (lv := [(0, zR G 0)]) rfl (fun X C R => ?_)
  have C : zC G X cX7_undo RX7 4 2 := C
  unfold f_X7_undo at h
  refine zr_aload_n C 0 dX7_undo_0 rfl rfl ?_
  refine zg_X7_30 C zo_0 dX7_undo_1 ?_
  refine zg_X7_80 C zo_29 dX7_undo_4 ?_
  refine zr_if_gt C 13 dX7_undo_7 (by decide) (fun c => ?_) (fun c => ?_)
  · have h := h.1 c
    refine zr_aload_n C 0 dX7_undo_13 rfl rfl ?_
    refine zg_X7_30 C zo_0 dX7_undo_14 ?_
    refine zg_X7_80 C zo_29 dX7_undo_17 ?_
    refine zr_iconst C (v := 1) dX7_undo_20 (by decide) ?_
    refine zr_isub C dX7_undo_21 ?_
    refine zr_letI (fun v1 hv1 => ?_)
    have h := h v1 hv1
    refine zr_istore_n C [1, 0] dX7_undo_22 rfl (by decide) rfl (lv' := [(0, zR G 0), (1, .int v1)]) ?_
    refine zr_aload_n C 0 dX7_undo_23 rfl rfl ?_
    refine zg_X7_30 C zo_0 dX7_undo_24 ?_
    refine zr_iload_n C 1 dX7_undo_27 rfl rfl ?_
    refine zp_X7_80 C zo_29 dX7_undo_28 ?_
    refine zr_letM (fun M2 hM2 => ?_)
    have h := h M2 hM2
    refine zr_aload_n C 0 dX7_undo_31 rfl rfl ?_
    refine zg_X7_18 C zo_0 dX7_undo_32 ?_
    refine zr_aload_n C 0 dX7_undo_35 rfl rfl ?_
    refine zg_X7_30 C zo_0 dX7_undo_36 ?_
    refine zg_X7_131 C zo_29 dX7_undo_39 ?_
    refine zr_iload_n C 1 dX7_undo_42 rfl rfl ?_
    refine zr_iald C za_30 h.1 dX7_undo_43 ?_
    have h := h.2
    have hi3 := h.1
    have h := h.2
    refine zr_aald C hi3 dX7_undo_44 ?_
    refine zr_aload_n C 0 dX7_undo_45 rfl rfl ?_
    refine zg_X7_30 C zo_0 dX7_undo_46 ?_
    refine zg_X7_134 C zo_29 dX7_undo_49 ?_
    refine zr_iload_n C 1 dX7_undo_52 rfl rfl ?_
    refine zr_bipush C (v := 8) dX7_undo_53 (by decide) ?_
    refine zr_imul C dX7_undo_55 ?_
    refine zcU (zrunVN C (rest := []) (c_X0_takes X.2.1 G N _ (zkdAi hi3) _ za_31.1 _ _ _ h) zk_X0_takes znl_X7_76 (zRc_0 (zkdAi hi3)) (by decide) (by decide) rfl (Nat.le_of_ble_eq_true rfl) rfl dX7_undo_56) (fun M5 h => ?_)
    refine zr_aload_n C 0 dX7_undo_59 rfl rfl ?_
    refine zg_X7_51 C zo_0 dX7_undo_60 ?_
    refine zcU (zrunVN C (rest := []) (c_X3_outdate X.2.1 G N  _ _ h) zk_X3_outdate znl_X7_85 (zRc_3 zo_38) (by decide) (by decide) rfl (Nat.le_of_ble_eq_true rfl) rfl dX7_undo_63) (fun M7 h => ?_)
    refine zr_iload_n C 1 dX7_undo_66 rfl rfl ?_
    exact R _ _ _ _ h dX7_undo_67
  · have h := h.2 c
    refine zr_bipush C (v := -2) dX7_undo_10 (by decide) ?_
    exact R _ _ _ _ h dX7_undo_12
/-! X7_areTwoArcs -/
set_option maxHeartbeats 4000000 in
set_option maxRecDepth 100000 in
theorem c_X7_areTwoArcs (l : Launch) (G : zG) (N : Nat) (x1 : Int32) (x2 : Int32) (M : zMem) (Q : Int32 → zMem → Prop) (h : f_X7_areTwoArcs N x1 x2 M Q) : zMI l G yX7_areTwoArcs cX7_areTwoArcs 3 .boolean 1 [zR G 0, .int x1, .int x2] M Q := by
  refine zEZ (by decide) (Nat.le_of_ble_eq_true rfl) (lv := [(0, zR G 0), (1, .int x1), (2, .int x2)]) rfl (fun X C R => ?_)
  have C : zC G X cX7_areTwoArcs RX7 1 3 := C
  unfold f_X7_areTwoArcs at h
  refine zr_aload_n C 0 dX7_areTwoArcs_0 rfl rfl ?_
  refine zr_iload_n C 1 dX7_areTwoArcs_1 rfl rfl ?_
  refine zcI (zrunV C (rest := []) (c_X7_isArc X.2.1 G N _ _ _ h) zk_X7_isArc zl_X7_88 (zRc_6 zo_0) (by decide) (by decide) rfl (Nat.le_of_ble_eq_true rfl) rfl dX7_areTwoArcs_2) (fun r1 M2 h => ?_)
  refine zr_if_eq C 25 dX7_areTwoArcs_5 (by decide) (fun c => ?_) (fun c => ?_)
  · have h := h.1 c
    refine zr_iconst C (v := 0) dX7_areTwoArcs_25 (by decide) ?_
    exact R _ _ _ _ zb_0.1 h dX7_areTwoArcs_26
  · have h := h.2 c
    refine zr_aload_n C 0 dX7_areTwoArcs_8 rfl rfl ?_
    refine zr_iload_n C 2 dX7_areTwoArcs_9 rfl rfl ?_
    refine zcI (zrunV C (rest := []) (c_X7_isArc X.2.1 G N _ _ _ h) zk_X7_isArc zl_X7_88 (zRc_6 zo_0) (by decide) (by decide) rfl (Nat.le_of_ble_eq_true rfl) rfl dX7_areTwoArcs_10) (fun r3 M4 h => ?_)
    refine zr_if_eq C 25 dX7_areTwoArcs_13 (by decide) (fun c => ?_) (fun c => ?_)
    · have h := h.1 c
      refine zr_iconst C (v := 0) dX7_areTwoArcs_25 (by decide) ?_
      exact R _ _ _ _ zb_0.1 h dX7_areTwoArcs_26
    · have h := h.2 c
      refine zr_iload_n C 1 dX7_areTwoArcs_16 rfl rfl ?_
      refine zr_iload_n C 2 dX7_areTwoArcs_17 rfl rfl ?_
      refine zr_icmp_eq C 25 dX7_areTwoArcs_18 (by decide) (fun c => ?_) (fun c => ?_)
      · have h := h.1 c
        refine zr_iconst C (v := 0) dX7_areTwoArcs_25 (by decide) ?_
        exact R _ _ _ _ zb_0.1 h dX7_areTwoArcs_26
      · have h := h.2 c
        refine zr_iconst C (v := 1) dX7_areTwoArcs_21 (by decide) ?_
        refine zr_goto C 26 dX7_areTwoArcs_22 (by decide) ?_
        exact R _ _ _ _ zb_1.1 h dX7_areTwoArcs_26
/-! X7_apart -/
set_option maxHeartbeats 4000000 in
set_option maxRecDepth 100000 in
theorem c_X7_apart (l : Launch) (G : zG) (N : Nat) (x1 : Int32) (x2 : Int32) (x3 : Int32) (x4 : Int32) (M : zMem) (Q : Int32 → zMem → Prop) (h : f_X7_apart N x1 x2 x3 x4 M Q) : zMI l G yX7_apart cX7_apart 5 .int 3 [zR G 0, .int x1, .int x2, .int x3, .int x4] M Q := by
  refine zEI (by decide) (Nat.le_of_ble_eq_true rfl) (lv := [(0, zR G 0), (1, .int x1), (2, .int x2), (3, .int x3), (4, .int x4)]) rfl (fun X C R => ?_)
  have C : zC G X cX7_apart RX7 3 5 := C
  unfold f_X7_apart at h
  refine zr_aload_n C 0 dX7_apart_0 rfl rfl ?_
  refine zr_iload_n C 1 dX7_apart_1 rfl rfl ?_
  refine zr_iload_n C 3 dX7_apart_2 rfl rfl ?_
  refine zcI (zrunV C (rest := []) (c_X7_areTwoArcs X.2.1 G N _ _ _ _ h) zk_X7_areTwoArcs zl_X7_135 (zRc_6 zo_0) (by decide) (by decide) rfl (Nat.le_of_ble_eq_true rfl) rfl dX7_apart_3) (fun r1 M2 h => ?_)
  refine zr_if_eq C 24 dX7_apart_6 (by decide) (fun c => ?_) (fun c => ?_)
  · have h := h.1 c
    refine zr_iconst C (v := -1) dX7_apart_24 (by decide) ?_
    exact R _ _ _ _ h dX7_apart_25
  · have h := h.2 c
    refine zr_iload_n C 2 dX7_apart_9 rfl rfl ?_
    refine zcI (zrunS C (rest := []) (c_X7_isNode X.2.1 G N _ _ _ h) zk_X7_isNode zl_X7_92 (by decide) (by decide) rfl (Nat.le_of_ble_eq_true rfl) rfl dX7_apart_10) (fun r3 M4 h => ?_)
    refine zr_if_eq C 24 dX7_apart_13 (by decide) (fun c => ?_) (fun c => ?_)
    · have h := h.1 c
      refine zr_iconst C (v := -1) dX7_apart_24 (by decide) ?_
      exact R _ _ _ _ h dX7_apart_25
    · have h := h.2 c
      refine zr_iload C 4 dX7_apart_16 rfl ?_
      refine zcI (zrunS C (rest := []) (c_X7_isNode X.2.1 G N _ _ _ h) zk_X7_isNode zl_X7_92 (by decide) (by decide) rfl (Nat.le_of_ble_eq_true rfl) rfl dX7_apart_18) (fun r5 M6 h => ?_)
      refine zr_if_ne C 26 dX7_apart_21 (by decide) (fun c => ?_) (fun c => ?_)
      · have h := h.1 c
        refine zr_aload_n C 0 dX7_apart_26 rfl rfl ?_
        refine zg_X7_18 C zo_0 dX7_apart_27 ?_
        refine zr_iload_n C 1 dX7_apart_30 rfl rfl ?_
        have hi7 := h.1
        have h := h.2
        refine zr_aald C hi7 dX7_apart_31 ?_
        refine zr_iload_n C 2 dX7_apart_32 rfl rfl ?_
        refine zr_aload_n C 0 dX7_apart_33 rfl rfl ?_
        refine zg_X7_18 C zo_0 dX7_apart_34 ?_
        refine zr_iload_n C 3 dX7_apart_37 rfl rfl ?_
        have hi8 := h.1
        have h := h.2
        refine zr_aald C hi8 dX7_apart_38 ?_
        refine zr_iload C 4 dX7_apart_39 rfl ?_
        refine zcI (zrunSN C (rest := []) (c_X4_whyApart X.2.1 G N _ (zkdAi hi7) _ _ (zkdAi hi8) _ _ _ h) zk_X4_whyApart znl_X7_138 (by decide) (by decide) rfl (Nat.le_of_ble_eq_true rfl) rfl dX7_apart_41) (fun r9 M10 h => ?_)
        exact R _ _ _ _ h dX7_apart_44
      · have h := h.2 c
        refine zr_iconst C (v := -1) dX7_apart_24 (by decide) ?_
        exact R _ _ _ _ h dX7_apart_25
/-! X7_turn -/
set_option maxHeartbeats 4000000 in
set_option maxRecDepth 100000 in
theorem w_X7_turn_b63 {G : zG} {X : zX} (C : zC G X cX7_turn RX7 3 7) (N : Nat) (Q : Int32 → zMem → Prop) (R : zRI G X cX7_turn Q) (x1 : Int32) (x2 : Int32) (x3 : Int32) (x4 : Int32) (s0 : Int32) (M : zMem) (h : f_X7_turn_b63 N x1 x2 x3 x4 s0 M Q) : zV G X M [(0, zR G 0), (1, .int x1), (2, .int x2), (3, .int x3), (4, .int x4)] [.int s0] 63 := by
  unfold f_X7_turn_b63 at h
  refine zr_istore C [1, 2, 3, 4, 5, 0] dX7_turn_63 (by decide) rfl (lv' := [(0, zR G 0), (1, .int x1), (2, .int x2), (3, .int x3), (4, .int x4), (6, .int s0)]) ?_
  refine zr_aload_n C 0 dX7_turn_65 rfl rfl ?_
  refine zg_X7_18 C zo_0 dX7_turn_66 ?_
  refine zr_iload_n C 1 dX7_turn_69 rfl rfl ?_
  have hi11 := h.1
  have h := h.2
  refine zr_aald C hi11 dX7_turn_70 ?_
  refine zr_iload_n C 2 dX7_turn_71 rfl rfl ?_
  refine zr_aload_n C 0 dX7_turn_72 rfl rfl ?_
  refine zg_X7_18 C zo_0 dX7_turn_73 ?_
  refine zr_iload_n C 3 dX7_turn_76 rfl rfl ?_
  have hi12 := h.1
  have h := h.2
  refine zr_aald C hi12 dX7_turn_77 ?_
  refine zr_iload C 4 dX7_turn_78 rfl ?_
  refine zcI (zrunSN C (rest := []) (c_X4_endsCross X.2.1 G N _ (zkdAi hi11) _ _ (zkdAi hi12) _ _ _ h) zk_X4_endsCross znl_X7_147 (by decide) (by decide) rfl (Nat.le_of_ble_eq_true rfl) rfl dX7_turn_80) (fun r13 M14 h => ?_)
  refine zr_if_eq C 93 dX7_turn_83 (by decide) (fun c => ?_) (fun c => ?_)
  · have h := h.1 c
    refine zr_iload C 5 dX7_turn_93 rfl ?_
    exact R _ _ _ _ h dX7_turn_95
  · have h := h.2 c
    refine zr_iload C 5 dX7_turn_86 rfl ?_
    refine zr_iconst C (v := 2) dX7_turn_88 (by decide) ?_
    refine zr_iadd C dX7_turn_89 ?_
    refine zr_goto C 95 dX7_turn_90 (by decide) ?_
    exact R _ _ _ _ h dX7_turn_95
set_option maxHeartbeats 4000000 in
set_option maxRecDepth 100000 in
theorem c_X7_turn (l : Launch) (G : zG) (N : Nat) (x1 : Int32) (x2 : Int32) (x3 : Int32) (x4 : Int32) (M : zMem) (Q : Int32 → zMem → Prop) (h : f_X7_turn N x1 x2 x3 x4 M Q) : zMI l G yX7_turn cX7_turn 7 .int 3 [zR G 0, .int x1, .int x2, .int x3, .int x4] M Q := by
  refine zEI (by decide) (Nat.le_of_ble_eq_true rfl) (lv := [(0, zR G 0), (1, .int x1), (2, .int x2), (3, .int x3), (4, .int x4)]) rfl (fun X C R => ?_)
  have C : zC G X cX7_turn RX7 3 7 := C
  unfold f_X7_turn at h
  refine zr_aload_n C 0 dX7_turn_0 rfl rfl ?_
  refine zr_iload_n C 1 dX7_turn_1 rfl rfl ?_
  refine zr_iload_n C 3 dX7_turn_2 rfl rfl ?_
  refine zcI (zrunV C (rest := []) (c_X7_areTwoArcs X.2.1 G N _ _ _ _ h) zk_X7_areTwoArcs zl_X7_135 (zRc_6 zo_0) (by decide) (by decide) rfl (Nat.le_of_ble_eq_true rfl) rfl dX7_turn_3) (fun r1 M2 h => ?_)
  refine zr_if_eq C 24 dX7_turn_6 (by decide) (fun c => ?_) (fun c => ?_)
  · have h := h.1 c
    refine zr_iconst C (v := -1) dX7_turn_24 (by decide) ?_
    exact R _ _ _ _ h dX7_turn_25
  · have h := h.2 c
    refine zr_iload_n C 2 dX7_turn_9 rfl rfl ?_
    refine zcI (zrunS C (rest := []) (c_X7_isNode X.2.1 G N _ _ _ h) zk_X7_isNode zl_X7_92 (by decide) (by decide) rfl (Nat.le_of_ble_eq_true rfl) rfl dX7_turn_10) (fun r3 M4 h => ?_)
    refine zr_if_eq C 24 dX7_turn_13 (by decide) (fun c => ?_) (fun c => ?_)
    · have h := h.1 c
      refine zr_iconst C (v := -1) dX7_turn_24 (by decide) ?_
      exact R _ _ _ _ h dX7_turn_25
    · have h := h.2 c
      refine zr_iload C 4 dX7_turn_16 rfl ?_
      refine zcI (zrunS C (rest := []) (c_X7_isNode X.2.1 G N _ _ _ h) zk_X7_isNode zl_X7_92 (by decide) (by decide) rfl (Nat.le_of_ble_eq_true rfl) rfl dX7_turn_18) (fun r5 M6 h => ?_)
      refine zr_if_ne C 26 dX7_turn_21 (by decide) (fun c => ?_) (fun c => ?_)
      · have h := h.1 c
        refine zr_aload_n C 0 dX7_turn_26 rfl rfl ?_
        refine zg_X7_18 C zo_0 dX7_turn_27 ?_
        refine zr_iload_n C 1 dX7_turn_30 rfl rfl ?_
        have hi7 := h.1
        have h := h.2
        refine zr_aald C hi7 dX7_turn_31 ?_
        refine zr_iload_n C 2 dX7_turn_32 rfl rfl ?_
        refine zr_aload_n C 0 dX7_turn_33 rfl rfl ?_
        refine zg_X7_18 C zo_0 dX7_turn_34 ?_
        refine zr_iload_n C 3 dX7_turn_37 rfl rfl ?_
        have hi8 := h.1
        have h := h.2
        refine zr_aald C hi8 dX7_turn_38 ?_
        refine zr_iload C 4 dX7_turn_39 rfl ?_
        refine zcI (zrunSN C (rest := []) (c_X4_wayOfTurn X.2.1 G N _ (zkdAi hi7) _ _ (zkdAi hi8) _ _ _ h) zk_X4_wayOfTurn znl_X7_144 (by decide) (by decide) rfl (Nat.le_of_ble_eq_true rfl) rfl dX7_turn_41) (fun r9 M10 h => ?_)
        refine zr_istore C [1, 2, 3, 4, 5, 0] dX7_turn_44 (by decide) rfl (lv' := [(0, zR G 0), (1, .int x1), (2, .int x2), (3, .int x3), (4, .int x4), (5, .int r9)]) ?_
        refine zr_iload C 5 dX7_turn_46 rfl ?_
        refine zr_if_ne C 53 dX7_turn_48 (by decide) (fun c => ?_) (fun c => ?_)
        · have h := h.1 c
          refine zr_iload C 5 dX7_turn_53 rfl ?_
          refine zr_if_le C 62 dX7_turn_55 (by decide) (fun c => ?_) (fun c => ?_)
          · have h := h.1 c
            refine zr_iconst C (v := 2) dX7_turn_62 (by decide) ?_
            refine zr_sub [0, 1, 2, 3, 4] rfl (lv' := [(0, zR G 0), (1, .int x1), (2, .int x2), (3, .int x3), (4, .int x4)]) ?_
            exact w_X7_turn_b63 C N Q R _ _ _ _ _ _ h
          · have h := h.2 c
            refine zr_iconst C (v := 1) dX7_turn_58 (by decide) ?_
            refine zr_goto C 63 dX7_turn_59 (by decide) ?_
            refine zr_sub [0, 1, 2, 3, 4] rfl (lv' := [(0, zR G 0), (1, .int x1), (2, .int x2), (3, .int x3), (4, .int x4)]) ?_
            exact w_X7_turn_b63 C N Q R _ _ _ _ _ _ h
        · have h := h.2 c
          refine zr_iconst C (v := 0) dX7_turn_51 (by decide) ?_
          exact R _ _ _ _ h dX7_turn_52
      · have h := h.2 c
        refine zr_iconst C (v := -1) dX7_turn_24 (by decide) ?_
        exact R _ _ _ _ h dX7_turn_25
/-! X7_whichSigns -/
set_option maxHeartbeats 4000000 in
set_option maxRecDepth 100000 in
theorem w_X7_whichSigns_b14 {G : zG} {X : zX} (C : zC G X cX7_whichSigns RX7 0 4) (N : Nat) (Q : Int32 → zMem → Prop) (R : zRI G X cX7_whichSigns Q) (x0 : Int64) (x2 : Int64) (M : zMem) (h : f_X7_whichSigns_b14 N x0 x2 M Q) : zV G X M [(0, .long x0), (2, .long x2)] [] 14 := by
  unfold f_X7_whichSigns_b14 at h
  refine zr_lload_n C 0 dX7_whichSigns_14 rfl rfl ?_
  refine zr_lconst C (v := 0) dX7_whichSigns_15 (by decide) ?_
  refine zr_lcmp_lt C 22 dX7_whichSigns_16 dX7_whichSigns_17 (by decide) (fun c => ?_) (fun c => ?_)
  · have h := h.1 c
    refine zr_lload_n C 1 dX7_whichSigns_22 rfl rfl ?_
    refine zr_lconst C (v := 0) dX7_whichSigns_23 (by decide) ?_
    refine zr_lcmp_gt C 32 dX7_whichSigns_24 dX7_whichSigns_25 (by decide) (fun c => ?_) (fun c => ?_)
    · have h := h.1 c
      refine zr_iconst C (v := 3) dX7_whichSigns_32 (by decide) ?_
      exact R _ _ _ _ h dX7_whichSigns_33
    · have h := h.2 c
      refine zr_iconst C (v := 2) dX7_whichSigns_28 (by decide) ?_
      refine zr_goto C 33 dX7_whichSigns_29 (by decide) ?_
      exact R _ _ _ _ h dX7_whichSigns_33
  · have h := h.2 c
    refine zr_iconst C (v := 1) dX7_whichSigns_20 (by decide) ?_
    exact R _ _ _ _ h dX7_whichSigns_21
set_option maxHeartbeats 4000000 in
set_option maxRecDepth 100000 in
theorem c_X7_whichSigns (l : Launch) (G : zG) (N : Nat) (x0 : Int64) (x2 : Int64) (M : zMem) (Q : Int32 → zMem → Prop) (h : f_X7_whichSigns N x0 x2 M Q) : zMI l G yX7_whichSigns cX7_whichSigns 4 .int 0 [.long x0, .long x2] M Q := by
  refine zEI (by decide) (Nat.le_of_ble_eq_true rfl) (lv := [(0, .long x0), (2, .long x2)]) rfl (fun X C R => ?_)
  have C : zC G X cX7_whichSigns RX7 0 4 := C
  unfold f_X7_whichSigns at h
  refine zr_lload_n C 0 dX7_whichSigns_0 rfl rfl ?_
  refine zr_lconst C (v := 0) dX7_whichSigns_1 (by decide) ?_
  refine zr_lcmp_ne C 14 dX7_whichSigns_2 dX7_whichSigns_3 (by decide) (fun c => ?_) (fun c => ?_)
  · have h := h.1 c
    exact w_X7_whichSigns_b14 C N Q R _ _ _ h
  · have h := h.2 c
    refine zr_lload_n C 1 dX7_whichSigns_6 rfl rfl ?_
    refine zr_lconst C (v := 0) dX7_whichSigns_7 (by decide) ?_
    refine zr_lcmp_ne C 14 dX7_whichSigns_8 dX7_whichSigns_9 (by decide) (fun c => ?_) (fun c => ?_)
    · have h := h.1 c
      exact w_X7_whichSigns_b14 C N Q R _ _ _ h
    · have h := h.2 c
      refine zr_iconst C (v := 0) dX7_whichSigns_12 (by decide) ?_
      exact R _ _ _ _ h dX7_whichSigns_13
/-! X7_bends -/
set_option maxHeartbeats 4000000 in
set_option maxRecDepth 100000 in
theorem c_X7_bends (l : Launch) (G : zG) (N : Nat) (x1 : Int32) (x2 : Int32) (M : zMem) (Q : Int32 → zMem → Prop) (h : f_X7_bends N x1 x2 M Q) : zMI l G yX7_bends cX7_bends 8 .int 2 [zR G 0, .int x1, .int x2] M Q := by
  refine zEI (by decide) (Nat.le_of_ble_eq_true rfl) (lv := [(0, zR G 0), (1, .int x1), (2, .int x2)]) rfl (fun X C R => ?_)
  have C : zC G X cX7_bends RX7 2 8 := C
  unfold f_X7_bends at h
  refine zr_aload_n C 0 dX7_bends_0 rfl rfl ?_
  refine zr_iload_n C 1 dX7_bends_1 rfl rfl ?_
  refine zcI (zrunV C (rest := []) (c_X7_isArc X.2.1 G N _ _ _ h) zk_X7_isArc zl_X7_88 (zRc_6 zo_0) (by decide) (by decide) rfl (Nat.le_of_ble_eq_true rfl) rfl dX7_bends_2) (fun r1 M2 h => ?_)
  refine zr_if_eq C 15 dX7_bends_5 (by decide) (fun c => ?_) (fun c => ?_)
  · have h := h.1 c
    refine zr_iconst C (v := -1) dX7_bends_15 (by decide) ?_
    exact R _ _ _ _ h dX7_bends_16
  · have h := h.2 c
    refine zr_iload_n C 2 dX7_bends_8 rfl rfl ?_
    refine zcI (zrunS C (rest := []) (c_X7_isNode X.2.1 G N _ _ _ h) zk_X7_isNode zl_X7_92 (by decide) (by decide) rfl (Nat.le_of_ble_eq_true rfl) rfl dX7_bends_9) (fun r3 M4 h => ?_)
    refine zr_if_ne C 17 dX7_bends_12 (by decide) (fun c => ?_) (fun c => ?_)
    · have h := h.1 c
      refine zr_aload_n C 0 dX7_bends_17 rfl rfl ?_
      refine zg_X7_18 C zo_0 dX7_bends_18 ?_
      refine zr_iload_n C 1 dX7_bends_21 rfl rfl ?_
      have hi5 := h.1
      have h := h.2
      refine zr_aald C hi5 dX7_bends_22 ?_
      refine zr_astore_n C [3, 0] dX7_bends_23 rfl (by decide) rfl (lv' := [(2, .int x2), (3, zR G (5 + 6 * x1.toNatClampNeg))]) ?_
      refine zr_aload_n C 1 dX7_bends_24 rfl rfl ?_
      refine zr_iload_n C 0 dX7_bends_25 rfl rfl ?_
      refine zr_iconst C (v := 0) dX7_bends_26 (by decide) ?_
      refine zr_aload_n C 1 dX7_bends_27 rfl rfl ?_
      refine zr_iload_n C 0 dX7_bends_28 rfl rfl ?_
      refine zr_iconst C (v := 1) dX7_bends_29 (by decide) ?_
      refine zcL (zrunSN C (rest := []) (c_X4_crossOfSteps X.2.1 G N _ (zkdAi hi5) _ _ _ (zkdAi hi5) _ _ _ _ h) zk_X4_crossOfSteps znl_X7_151 (by decide) (by decide) rfl (Nat.le_of_ble_eq_true rfl) rfl dX7_bends_30) (fun r6 M7 h => ?_)
      refine zr_lstore C [1, 2, 0] dX7_bends_33 (by decide) rfl (lv' := [(2, .int x2), (3, zR G (5 + 6 * x1.toNatClampNeg)), (4, .long r6)]) ?_
      refine zr_aload_n C 1 dX7_bends_35 rfl rfl ?_
      refine zr_iload_n C 0 dX7_bends_36 rfl rfl ?_
      refine zr_iconst C (v := 1) dX7_bends_37 (by decide) ?_
      refine zr_aload_n C 1 dX7_bends_38 rfl rfl ?_
      refine zr_iload_n C 0 dX7_bends_39 rfl rfl ?_
      refine zr_iconst C (v := 2) dX7_bends_40 (by decide) ?_
      refine zcL (zrunSN C (rest := []) (c_X4_crossOfSteps X.2.1 G N _ (zkdAi hi5) _ _ _ (zkdAi hi5) _ _ _ _ h) zk_X4_crossOfSteps znl_X7_151 (by decide) (by decide) rfl (Nat.le_of_ble_eq_true rfl) rfl dX7_bends_41) (fun r8 M9 h => ?_)
      refine zr_lstore C [3, 0] dX7_bends_44 (by decide) rfl (lv' := [(4, .long r6), (6, .long r8)]) ?_
      refine zr_lload C 0 dX7_bends_46 rfl ?_
      refine zr_lload C 1 dX7_bends_48 rfl ?_
      refine zr_mminL C zlm_X7_155 zw2_mminL (by decide) (Nat.le_of_ble_eq_true rfl) dX7_bends_50 ?_
      refine zr_lload C 0 dX7_bends_53 rfl ?_
      refine zr_lload C 1 dX7_bends_55 rfl ?_
      refine zr_mmaxL C zlm_X7_161 zw2_mmaxL (by decide) (Nat.le_of_ble_eq_true rfl) dX7_bends_57 ?_
      refine zcI (zrunS C (rest := []) (c_X7_whichSigns X.2.1 G N _ _ _ _ h) zk_X7_whichSigns zl_X7_164 (by decide) (by decide) rfl (Nat.le_of_ble_eq_true rfl) rfl dX7_bends_60) (fun r10 M11 h => ?_)
      exact R _ _ _ _ h dX7_bends_63
    · have h := h.2 c
      refine zr_iconst C (v := -1) dX7_bends_15 (by decide) ?_
      exact R _ _ _ _ h dX7_bends_16
/-! X7_goes -/
set_option maxHeartbeats 4000000 in
set_option maxRecDepth 100000 in
theorem w_X7_goes_b45 {G : zG} {X : zX} (C : zC G X cX7_goes RX7 1 8) (N : Nat) (Q : Int32 → zMem → Prop) (R : zRI G X cX7_goes Q) (x1 : Int32) (x2 : Int32) (x3 : Int32) (k45 : Int32 → Int32 → Int32 → zMem → Prop) (hk45 : ∀ (z4 : Int32) (z5 : Int32) (z6 : Int32) (M : zMem), k45 z4 z5 z6 M → zV G X M [(0, zR G 0), (1, .int x1), (2, .int x2), (3, .int x3), (4, .int z4), (5, .int z5), (6, .int z6)] [] 45) (x4 : Int32) (x5 : Int32) (x6 : Int32) (M : zMem) (h : f_X7_goes_b45 N k45 x1 x2 x3 x4 x5 x6 M Q) : zV G X M [(0, zR G 0), (1, .int x1), (2, .int x2), (3, .int x3), (4, .int x4), (5, .int x5), (6, .int x6)] [] 45 := by
  unfold f_X7_goes_b45 at h
  refine zr_iload C 6 dX7_goes_45 rfl ?_
  refine zr_iconst C (v := 3) dX7_goes_47 (by decide) ?_
  refine zr_icmp_ge C 90 dX7_goes_48 (by decide) (fun c => ?_) (fun c => ?_)
  · have h := h.1 c
    refine zr_iload C 4 dX7_goes_90 rfl ?_
    refine zr_i2l C dX7_goes_92 ?_
    refine zr_iload C 5 dX7_goes_93 rfl ?_
    refine zr_i2l C dX7_goes_95 ?_
    refine zcI (zrunS C (rest := []) (c_X7_whichSigns X.2.1 G N _ _ _ _ h) zk_X7_whichSigns zl_X7_164 (by decide) (by decide) rfl (Nat.le_of_ble_eq_true rfl) rfl dX7_goes_96) (fun r10 M11 h => ?_)
    exact R _ _ _ _ h dX7_goes_99
  · have h := h.2 c
    refine zr_aload_n C 0 dX7_goes_51 rfl rfl ?_
    refine zg_X7_18 C zo_0 dX7_goes_52 ?_
    refine zr_iload_n C 1 dX7_goes_55 rfl rfl ?_
    have hi12 := h.1
    have h := h.2
    refine zr_aald C hi12 dX7_goes_56 ?_
    refine zr_iload_n C 2 dX7_goes_57 rfl rfl ?_
    refine zr_iload C 6 dX7_goes_58 rfl ?_
    refine zr_iload_n C 3 dX7_goes_60 rfl rfl ?_
    refine zcI (zrunVN C (rest := []) (c_X0_step X.2.1 G N _ (zkdAi hi12) _ _ _ _ _ h) zk_X0_step znl_X7_168 (zRc_0 (zkdAi hi12)) (by decide) (by decide) rfl (Nat.le_of_ble_eq_true rfl) rfl dX7_goes_61) (fun r13 M14 h => ?_)
    refine zr_istore C [1, 2, 3, 4, 5, 6, 7, 0] dX7_goes_64 (by decide) rfl (lv' := [(0, zR G 0), (1, .int x1), (2, .int x2), (3, .int x3), (4, .int x4), (5, .int x5), (6, .int x6), (7, .int r13)]) ?_
    refine zr_iload C 4 dX7_goes_66 rfl ?_
    refine zr_iload C 7 dX7_goes_68 rfl ?_
    refine zr_mmin C zlm_X7_171 zw2_mmin (by decide) (Nat.le_of_ble_eq_true rfl) dX7_goes_70 ?_
    refine zr_letI (fun v15 hv15 => ?_)
    have h := h v15 hv15
    refine zr_istore C [1, 2, 3, 4, 0, 5, 6, 7] dX7_goes_73 (by decide) rfl (lv' := [(0, zR G 0), (1, .int x1), (2, .int x2), (3, .int x3), (4, .int v15), (5, .int x5), (6, .int x6), (7, .int r13)]) ?_
    refine zr_iload C 5 dX7_goes_75 rfl ?_
    refine zr_iload C 7 dX7_goes_77 rfl ?_
    refine zr_mmax C zlm_X7_174 zw2_mmax (by decide) (Nat.le_of_ble_eq_true rfl) dX7_goes_79 ?_
    refine zr_letI (fun v16 hv16 => ?_)
    have h := h v16 hv16
    refine zr_istore C [1, 2, 3, 4, 5, 0, 6] dX7_goes_82 (by decide) rfl (lv' := [(0, zR G 0), (1, .int x1), (2, .int x2), (3, .int x3), (4, .int v15), (5, .int v16), (6, .int x6)]) ?_
    obtain ⟨v17, hv17⟩ : ∃ y : Int32, y = x6 + (1 : Int32) := ⟨_, rfl⟩
    have h := h v17 hv17
    refine zr_iinc C 6 [1, 2, 3, 4, 5, 6, 0] dX7_goes_84 rfl (by rw [hv17]; rfl) (by decide) rfl (lv' := [(0, zR G 0), (1, .int x1), (2, .int x2), (3, .int x3), (4, .int v15), (5, .int v16), (6, .int v17)]) ?_
    refine zr_goto C 45 dX7_goes_87 (by decide) ?_
    exact hk45 _ _ _ _ h
theorem w_X7_goes_l45 {G : zG} {X : zX} (C : zC G X cX7_goes RX7 1 8) (N : Nat) (Q : Int32 → zMem → Prop) (R : zRI G X cX7_goes Q) (x1 : Int32) (x2 : Int32) (x3 : Int32) : ∀ (n : Nat) (x4 : Int32) (x5 : Int32) (x6 : Int32) (M : zMem), f_X7_goes_l45 N x1 x2 x3 Q n x4 x5 x6 M → zV G X M [(0, zR G 0), (1, .int x1), (2, .int x2), (3, .int x3), (4, .int x4), (5, .int x5), (6, .int x6)] [] 45 := by
  intro n
  induction n with
  | zero => intro x4 x5 x6 M h; exact h.elim
  | succ n ih =>
    intro x4 x5 x6 M h
    exact w_X7_goes_b45 C N Q R x1 x2 x3  _ ih x4 x5 x6 M h
set_option maxHeartbeats 4000000 in
set_option maxRecDepth 100000 in
theorem c_X7_goes (l : Launch) (G : zG) (N : Nat) (x1 : Int32) (x2 : Int32) (x3 : Int32) (M : zMem) (Q : Int32 → zMem → Prop) (h : f_X7_goes N x1 x2 x3 M Q) : zMI l G yX7_goes cX7_goes 8 .int 1 [zR G 0, .int x1, .int x2, .int x3] M Q := by
  refine zEI (by decide) (Nat.le_of_ble_eq_true rfl) (lv := [(0, zR G 0), (1, .int x1), (2, .int x2), (3, .int x3)]) rfl (fun X C R => ?_)
  have C : zC G X cX7_goes RX7 1 8 := C
  unfold f_X7_goes at h
  refine zr_aload_n C 0 dX7_goes_0 rfl rfl ?_
  refine zr_iload_n C 1 dX7_goes_1 rfl rfl ?_
  refine zcI (zrunV C (rest := []) (c_X7_isArc X.2.1 G N _ _ _ h) zk_X7_isArc zl_X7_88 (zRc_6 zo_0) (by decide) (by decide) rfl (Nat.le_of_ble_eq_true rfl) rfl dX7_goes_2) (fun r1 M2 h => ?_)
  refine zr_if_eq C 22 dX7_goes_5 (by decide) (fun c => ?_) (fun c => ?_)
  · have h := h.1 c
    refine zr_iconst C (v := -1) dX7_goes_22 (by decide) ?_
    exact R _ _ _ _ h dX7_goes_23
  · have h := h.2 c
    refine zr_iload_n C 2 dX7_goes_8 rfl rfl ?_
    refine zcI (zrunS C (rest := []) (c_X7_isNode X.2.1 G N _ _ _ h) zk_X7_isNode zl_X7_92 (by decide) (by decide) rfl (Nat.le_of_ble_eq_true rfl) rfl dX7_goes_9) (fun r3 M4 h => ?_)
    refine zr_if_eq C 22 dX7_goes_12 (by decide) (fun c => ?_) (fun c => ?_)
    · have h := h.1 c
      refine zr_iconst C (v := -1) dX7_goes_22 (by decide) ?_
      exact R _ _ _ _ h dX7_goes_23
    · have h := h.2 c
      refine zr_iload_n C 3 dX7_goes_15 rfl rfl ?_
      refine zcI (zrunS C (rest := []) (c_X7_isAxis X.2.1 G N _ _ _ h) zk_X7_isAxis zl_X7_98 (by decide) (by decide) rfl (Nat.le_of_ble_eq_true rfl) rfl dX7_goes_16) (fun r5 M6 h => ?_)
      refine zr_if_ne C 24 dX7_goes_19 (by decide) (fun c => ?_) (fun c => ?_)
      · have h := h.1 c
        refine zr_aload_n C 0 dX7_goes_24 rfl rfl ?_
        refine zg_X7_18 C zo_0 dX7_goes_25 ?_
        refine zr_iload_n C 1 dX7_goes_28 rfl rfl ?_
        have hi7 := h.1
        have h := h.2
        refine zr_aald C hi7 dX7_goes_29 ?_
        refine zr_iload_n C 2 dX7_goes_30 rfl rfl ?_
        refine zr_iconst C (v := 0) dX7_goes_31 (by decide) ?_
        refine zr_iload_n C 3 dX7_goes_32 rfl rfl ?_
        refine zcI (zrunVN C (rest := []) (c_X0_step X.2.1 G N _ (zkdAi hi7) _ _ _ _ _ h) zk_X0_step znl_X7_168 (zRc_0 (zkdAi hi7)) (by decide) (by decide) rfl (Nat.le_of_ble_eq_true rfl) rfl dX7_goes_33) (fun r8 M9 h => ?_)
        refine zr_istore C [1, 2, 3, 4, 0] dX7_goes_36 (by decide) rfl (lv' := [(0, zR G 0), (1, .int x1), (2, .int x2), (3, .int x3), (4, .int r8)]) ?_
        refine zr_iload C 4 dX7_goes_38 rfl ?_
        refine zr_istore C [1, 2, 3, 4, 5, 0] dX7_goes_40 (by decide) rfl (lv' := [(0, zR G 0), (1, .int x1), (2, .int x2), (3, .int x3), (4, .int r8), (5, .int r8)]) ?_
        refine zr_iconst C (v := 1) dX7_goes_42 (by decide) ?_
        refine zr_istore C [1, 2, 3, 4, 5, 6, 0] dX7_goes_43 (by decide) rfl (lv' := [(0, zR G 0), (1, .int x1), (2, .int x2), (3, .int x3), (4, .int r8), (5, .int r8), (6, .int (1 : Int32))]) ?_
        exact w_X7_goes_l45 C N Q R _ _ _ N _ _ _ _ h
      · have h := h.2 c
        refine zr_iconst C (v := -1) dX7_goes_22 (by decide) ?_
        exact R _ _ _ _ h dX7_goes_23
/-! X7_commonDivisor -/
set_option maxHeartbeats 4000000 in
set_option maxRecDepth 100000 in
theorem w_X7_commonDivisor_b23 {G : zG} {X : zX} (C : zC G X cX7_commonDivisor RX7 0 2) (N : Nat) (Q : Int32 → zMem → Prop) (R : zRI G X cX7_commonDivisor Q) (x0 : Int32) (x1 : Int32) (k3 : Int32 → zMem → Prop) (hk3 : ∀ (z1 : Int32) (M : zMem), k3 z1 M → zV G X M [(0, .int x0), (1, .int z1)] [] 3) (M : zMem) (h : f_X7_commonDivisor_b23 N k3 x0 x1 M Q) : zV G X M [(0, .int x0), (1, .int x1)] [] 23 := by
  unfold f_X7_commonDivisor_b23 at h
  obtain ⟨v1, hv1⟩ : ∃ y : Int32, y = x1 + (-1 : Int32) := ⟨_, rfl⟩
  have h := h v1 hv1
  refine zr_iinc C 1 [1, 0] dX7_commonDivisor_23 rfl (by rw [hv1]; rfl) (by decide) rfl (lv' := [(0, .int x0), (1, .int v1)]) ?_
  refine zr_goto C 3 dX7_commonDivisor_26 (by decide) ?_
  exact hk3 _ _ h
set_option maxHeartbeats 4000000 in
set_option maxRecDepth 100000 in
theorem w_X7_commonDivisor_b3 {G : zG} {X : zX} (C : zC G X cX7_commonDivisor RX7 0 2) (N : Nat) (Q : Int32 → zMem → Prop) (R : zRI G X cX7_commonDivisor Q) (x0 : Int32) (k3 : Int32 → zMem → Prop) (hk3 : ∀ (z1 : Int32) (M : zMem), k3 z1 M → zV G X M [(0, .int x0), (1, .int z1)] [] 3) (x1 : Int32) (M : zMem) (h : f_X7_commonDivisor_b3 N k3 x0 x1 M Q) : zV G X M [(0, .int x0), (1, .int x1)] [] 3 := by
  unfold f_X7_commonDivisor_b3 at h
  refine zr_iload_n C 1 dX7_commonDivisor_3 rfl rfl ?_
  refine zr_iconst C (v := 1) dX7_commonDivisor_4 (by decide) ?_
  refine zr_icmp_le C 29 dX7_commonDivisor_5 (by decide) (fun c => ?_) (fun c => ?_)
  · have h := h.1 c
    refine zr_iconst C (v := 1) dX7_commonDivisor_29 (by decide) ?_
    exact R _ _ _ _ h dX7_commonDivisor_30
  · have h := h.2 c
    refine zr_bipush C (v := 20) dX7_commonDivisor_8 (by decide) ?_
    refine zr_iload_n C 1 dX7_commonDivisor_10 rfl rfl ?_
    refine zr_irem C dX7_commonDivisor_11 h.1 ?_
    have h := h.2
    refine zr_if_ne C 23 dX7_commonDivisor_12 (by decide) (fun c => ?_) (fun c => ?_)
    · have h := h.1 c
      exact w_X7_commonDivisor_b23 C N Q R _ _ _ hk3 _ h
    · have h := h.2 c
      refine zr_iload_n C 0 dX7_commonDivisor_15 rfl rfl ?_
      refine zr_iload_n C 1 dX7_commonDivisor_16 rfl rfl ?_
      refine zr_irem C dX7_commonDivisor_17 h.1 ?_
      have h := h.2
      refine zr_if_ne C 23 dX7_commonDivisor_18 (by decide) (fun c => ?_) (fun c => ?_)
      · have h := h.1 c
        exact w_X7_commonDivisor_b23 C N Q R _ _ _ hk3 _ h
      · have h := h.2 c
        refine zr_iload_n C 1 dX7_commonDivisor_21 rfl rfl ?_
        exact R _ _ _ _ h dX7_commonDivisor_22
theorem w_X7_commonDivisor_l3 {G : zG} {X : zX} (C : zC G X cX7_commonDivisor RX7 0 2) (N : Nat) (Q : Int32 → zMem → Prop) (R : zRI G X cX7_commonDivisor Q) (x0 : Int32) : ∀ (n : Nat) (x1 : Int32) (M : zMem), f_X7_commonDivisor_l3 N x0 Q n x1 M → zV G X M [(0, .int x0), (1, .int x1)] [] 3 := by
  intro n
  induction n with
  | zero => intro x1 M h; exact h.elim
  | succ n ih =>
    intro x1 M h
    exact w_X7_commonDivisor_b3 C N Q R x0  _ ih x1 M h
set_option maxHeartbeats 4000000 in
set_option maxRecDepth 100000 in
theorem c_X7_commonDivisor (l : Launch) (G : zG) (N : Nat) (x0 : Int32) (M : zMem) (Q : Int32 → zMem → Prop) (h : f_X7_commonDivisor N x0 M Q) : zMI l G yX7_commonDivisor cX7_commonDivisor 2 .int 0 [.int x0] M Q := by
  refine zEI (by decide) (Nat.le_of_ble_eq_true rfl) (lv := [(0, .int x0)]) rfl (fun X C R => ?_)
  have C : zC G X cX7_commonDivisor RX7 0 2 := C
  unfold f_X7_commonDivisor at h
  refine zr_bipush C (v := 20) dX7_commonDivisor_0 (by decide) ?_
  refine zr_istore_n C [1, 0] dX7_commonDivisor_2 rfl (by decide) rfl (lv' := [(0, .int x0), (1, .int (20 : Int32))]) ?_
  exact w_X7_commonDivisor_l3 C N Q R _ N _ _ h
