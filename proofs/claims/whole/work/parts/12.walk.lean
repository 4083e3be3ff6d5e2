/-! X7_area -/
set_option maxHeartbeats 4000000 in
set_option maxRecDepth 100000 in
theorem w_X7_area_b63 {G : zG} {X : zX} (C : zC G X cX7_area RX7 1 5) (N : Nat) (Q : Int32 → zMem → Prop) (R : zRI G X cX7_area Q) (x1 : Int32) (x2 : Int32) (x3 : Int32) (x4 : Int32) (k30 : Int32 → Int32 → zMem → Prop) (hk30 : ∀ (z3 : Int32) (z4 : Int32) (M : zMem), k30 z3 z4 M → zV G X M [(0, zR G 0), (1, .int x1), (2, .int x2), (3, .int z3), (4, .int z4)] [] 30) (M : zMem) (h : f_X7_area_b63 N k30 x1 x2 x3 x4 M Q) : zV G X M [(0, zR G 0), (1, .int x1), (2, .int x2), (3, .int x3), (4, .int x4)] [] 63 := by
  unfold f_X7_area_b63 at h
  obtain ⟨v7, hv7⟩ : ∃ y : Int32, y = x4 + (1 : Int32) := ⟨_, rfl⟩
  have h := h v7 hv7
  refine zr_iinc C 4 [1, 2, 3, 4, 0] dX7_area_63 rfl (by rw [hv7]; rfl) (by decide) rfl (lv' := [(0, zR G 0), (1, .int x1), (2, .int x2), (3, .int x3), (4, .int v7)]) ?_
  refine zr_goto C 30 dX7_area_66 (by decide) ?_
  exact hk30 _ _ _ h
set_option maxHeartbeats 4000000 in
set_option maxRecDepth 100000 in
theorem w_X7_area_b50 {G : zG} {X : zX} (C : zC G X cX7_area RX7 1 5) (N : Nat) (Q : Int32 → zMem → Prop) (R : zRI G X cX7_area Q) (x1 : Int32) (x2 : Int32) (x3 : Int32) (x4 : Int32) (k30 : Int32 → Int32 → zMem → Prop) (hk30 : ∀ (z3 : Int32) (z4 : Int32) (M : zMem), k30 z3 z4 M → zV G X M [(0, zR G 0), (1, .int x1), (2, .int x2), (3, .int z3), (4, .int z4)] [] 30) (M : zMem) (h : f_X7_area_b50 N k30 x1 x2 x3 x4 M Q) : zV G X M [(0, zR G 0), (1, .int x1), (2, .int x2), (3, .int x3), (4, .int x4)] [] 50 := by
  unfold f_X7_area_b50 at h
  refine zr_iload_n C 3 dX7_area_50 rfl rfl ?_
  refine zr_aload_n C 0 dX7_area_51 rfl rfl ?_
  refine zg_X7_18 C zo_0 dX7_area_52 ?_
  refine zr_iload C 4 dX7_area_55 rfl ?_
  have hi3 := h.1
  have h := h.2
  refine zr_aald C hi3 dX7_area_57 ?_
  refine zcI (zrunVN C (rest := [.int x3]) (c_X0_areaParts X.2.1 G N _ (zkdAi hi3) _ _ h) zk_X0_areaParts znl_X7_176 (zRc_0 (zkdAi hi3)) (by decide) (by decide) rfl (Nat.le_of_ble_eq_true rfl) rfl dX7_area_58) (fun r4 M5 h => ?_)
  refine zr_iadd C dX7_area_61 ?_
  refine zr_letI (fun v6 hv6 => ?_)
  have h := h v6 hv6
  refine zr_istore_n C [1, 2, 3, 0, 4] dX7_area_62 rfl (by decide) rfl (lv' := [(0, zR G 0), (1, .int x1), (2, .int x2), (3, .int v6), (4, .int x4)]) ?_
  exact w_X7_area_b63 C N Q R _ _ _ _ _ hk30 _ h
set_option maxHeartbeats 4000000 in
set_option maxRecDepth 100000 in
theorem w_X7_area_b30 {G : zG} {X : zX} (C : zC G X cX7_area RX7 1 5) (N : Nat) (Q : Int32 → zMem → Prop) (R : zRI G X cX7_area Q) (x1 : Int32) (x2 : Int32) (k30 : Int32 → Int32 → zMem → Prop) (hk30 : ∀ (z3 : Int32) (z4 : Int32) (M : zMem), k30 z3 z4 M → zV G X M [(0, zR G 0), (1, .int x1), (2, .int x2), (3, .int z3), (4, .int z4)] [] 30) (x3 : Int32) (x4 : Int32) (M : zMem) (h : f_X7_area_b30 N k30 x1 x2 x3 x4 M Q) : zV G X M [(0, zR G 0), (1, .int x1), (2, .int x2), (3, .int x3), (4, .int x4)] [] 30 := by
  unfold f_X7_area_b30 at h
  refine zr_iload C 4 dX7_area_30 rfl ?_
  refine zr_aload_n C 0 dX7_area_32 rfl rfl ?_
  refine zg_X7_23 C zo_0 dX7_area_33 ?_
  refine zr_icmp_ge C 69 dX7_area_36 (by decide) (fun c => ?_) (fun c => ?_)
  · have h := h.1 c
    refine zr_iload_n C 3 dX7_area_69 rfl rfl ?_
    refine zcI (zrunS C (rest := []) (c_X7_commonDivisor X.2.1 G N _ _ _ h) zk_X7_commonDivisor zl_X7_179 (by decide) (by decide) rfl (Nat.le_of_ble_eq_true rfl) rfl dX7_area_70) (fun r1 M2 h => ?_)
    refine zr_istore C [3, 4, 0] dX7_area_73 (by decide) rfl (lv' := [(2, .int x2), (3, .int x3), (4, .int r1)]) ?_
    refine zr_iload_n C 0 dX7_area_75 rfl rfl ?_
    refine zr_if_ne C 86 dX7_area_76 (by decide) (fun c => ?_) (fun c => ?_)
    · have h := h.1 c
      refine zr_bipush C (v := 20) dX7_area_86 (by decide) ?_
      refine zr_iload C 2 dX7_area_88 rfl ?_
      refine zr_idiv C dX7_area_90 h.1 ?_
      have h := h.2
      exact R _ _ _ _ h dX7_area_91
    · have h := h.2 c
      refine zr_iload_n C 1 dX7_area_79 rfl rfl ?_
      refine zr_iload C 2 dX7_area_80 rfl ?_
      refine zr_idiv C dX7_area_82 h.1 ?_
      have h := h.2
      refine zr_goto C 91 dX7_area_83 (by decide) ?_
      exact R _ _ _ _ h dX7_area_91
  · have h := h.2 c
    refine zr_iload_n C 1 dX7_area_39 rfl rfl ?_
    refine zr_iconst C (v := -1) dX7_area_40 (by decide) ?_
    refine zr_icmp_eq C 50 dX7_area_41 (by decide) (fun c => ?_) (fun c => ?_)
    · have h := h.1 c
      exact w_X7_area_b50 C N Q R _ _ _ _ _ hk30 _ h
    · have h := h.2 c
      refine zr_iload_n C 1 dX7_area_44 rfl rfl ?_
      refine zr_iload C 4 dX7_area_45 rfl ?_
      refine zr_icmp_ne C 63 dX7_area_47 (by decide) (fun c => ?_) (fun c => ?_)
      · have h := h.1 c
        exact w_X7_area_b63 C N Q R _ _ _ _ _ hk30 _ h
      · have h := h.2 c
        exact w_X7_area_b50 C N Q R _ _ _ _ _ hk30 _ h
theorem w_X7_area_l30 {G : zG} {X : zX} (C : zC G X cX7_area RX7 1 5) (N : Nat) (Q : Int32 → zMem → Prop) (R : zRI G X cX7_area Q) (x1 : Int32) (x2 : Int32) : ∀ (n : Nat) (x3 : Int32) (x4 : Int32) (M : zMem), f_X7_area_l30 N x1 x2 Q n x3 x4 M → zV G X M [(0, zR G 0), (1, .int x1), (2, .int x2), (3, .int x3), (4, .int x4)] [] 30 := by
  intro n
  induction n with
  | zero => intro x3 x4 M h; exact h.elim
  | succ n ih =>
    intro x3 x4 M h
    exact w_X7_area_b30 C N Q R x1 x2  _ ih x3 x4 M h
set_option maxHeartbeats 4000000 in
set_option maxRecDepth 100000 in
theorem w_X7_area_b13 {G : zG} {X : zX} (C : zC G X cX7_area RX7 1 5) (N : Nat) (Q : Int32 → zMem → Prop) (R : zRI G X cX7_area Q) (x1 : Int32) (x2 : Int32) (M : zMem) (h : f_X7_area_b13 N x1 x2 M Q) : zV G X M [(0, zR G 0), (1, .int x1), (2, .int x2)] [] 13 := by
  unfold f_X7_area_b13 at h
  refine zr_iload_n C 2 dX7_area_13 rfl rfl ?_
  refine zr_if_lt C 22 dX7_area_14 (by decide) (fun c => ?_) (fun c => ?_)
  · have h := h.1 c
    refine zr_ldc C zkc_X7_101 dX7_area_22 ?_
    exact R _ _ _ _ h dX7_area_24
  · have h := h.2 c
    refine zr_iload_n C 2 dX7_area_17 rfl rfl ?_
    refine zr_iconst C (v := 1) dX7_area_18 (by decide) ?_
    refine zr_icmp_le C 25 dX7_area_19 (by decide) (fun c => ?_) (fun c => ?_)
    · have h := h.1 c
      refine zr_iconst C (v := 0) dX7_area_25 (by decide) ?_
      refine zr_istore_n C [1, 2, 3, 0] dX7_area_26 rfl (by decide) rfl (lv' := [(0, zR G 0), (1, .int x1), (2, .int x2), (3, .int (0 : Int32))]) ?_
      refine zr_iconst C (v := 0) dX7_area_27 (by decide) ?_
      refine zr_istore C [1, 2, 3, 4, 0] dX7_area_28 (by decide) rfl (lv' := [(0, zR G 0), (1, .int x1), (2, .int x2), (3, .int (0 : Int32)), (4, .int (0 : Int32))]) ?_
      exact w_X7_area_l30 C N Q R _ _ N _ _ _ h
    · have h := h.2 c
      refine zr_ldc C zkc_X7_101 dX7_area_22 ?_
      exact R _ _ _ _ h dX7_area_24
set_option maxHeartbeats 4000000 in
set_option maxRecDepth 100000 in
theorem c_X7_area (l : Launch) (G : zG) (N : Nat) (x1 : Int32) (x2 : Int32) (M : zMem) (Q : Int32 → zMem → Prop) (h : f_X7_area N x1 x2 M Q) : zMI l G yX7_area cX7_area 5 .int 1 [zR G 0, .int x1, .int x2] M Q := by
  refine zEI (by decide) (Nat.le_of_ble_eq_true rfl) (lv := [(0, zR G 0), (1, .int x1), (2, .int x2)]) rfl (fun X C R => ?_)
  have C : zC G X cX7_area RX7 1 5 := C
  unfold f_X7_area at h
  refine zr_iload_n C 1 dX7_area_0 rfl rfl ?_
  refine zr_iconst C (v := -1) dX7_area_1 (by decide) ?_
  refine zr_icmp_eq C 13 dX7_area_2 (by decide) (fun c => ?_) (fun c => ?_)
  · have h := h.1 c
    exact w_X7_area_b13 C N Q R _ _ _ h
  · have h := h.2 c
    refine zr_aload_n C 0 dX7_area_5 rfl rfl ?_
    refine zr_iload_n C 1 dX7_area_6 rfl rfl ?_
    refine zcI (zrunV C (rest := []) (c_X7_isArc X.2.1 G N _ _ _ h) zk_X7_isArc zl_X7_88 (zRc_6 zo_0) (by decide) (by decide) rfl (Nat.le_of_ble_eq_true rfl) rfl dX7_area_7) (fun r8 M9 h => ?_)
    refine zr_if_eq C 22 dX7_area_10 (by decide) (fun c => ?_) (fun c => ?_)
    · have h := h.1 c
      refine zr_ldc C zkc_X7_101 dX7_area_22 ?_
      exact R _ _ _ _ h dX7_area_24
    · have h := h.2 c
      exact w_X7_area_b13 C N Q R _ _ _ h
/-! X7_meets -/
set_option maxHeartbeats 4000000 in
set_option maxRecDepth 100000 in
theorem c_X7_meets (l : Launch) (G : zG) (N : Nat) (x1 : Int32) (x2 : Int32) (x3 : Int32) (M : zMem) (Q : Int32 → zMem → Prop) (h : f_X7_meets N x1 x2 x3 M Q) : zMI l G yX7_meets cX7_meets 4 .int 15 [zR G 0, .int x1, .int x2, .int x3] M Q := by
  refine zEI (by decide) (Nat.le_of_ble_eq_true rfl) (lv := [(0, zR G 0), (1, .int x1), (2, .int x2), (3, .int x3)]) rfl (fun X C R => ?_)
  have C : zC G X cX7_meets RX7 15 4 := C
  unfold f_X7_meets at h
  refine zr_aload_n C 0 dX7_meets_0 rfl rfl ?_
  refine zr_iload_n C 1 dX7_meets_1 rfl rfl ?_
  refine zr_iload_n C 2 dX7_meets_2 rfl rfl ?_
  refine zcI (zrunV C (rest := []) (c_X7_areTwoArcs X.2.1 G N _ _ _ _ h) zk_X7_areTwoArcs zl_X7_135 (zRc_6 zo_0) (by decide) (by decide) rfl (Nat.le_of_ble_eq_true rfl) rfl dX7_meets_3) (fun r1 M2 h => ?_)
  refine zr_if_eq C 18 dX7_meets_6 (by decide) (fun c => ?_) (fun c => ?_)
  · have h := h.1 c
    refine zr_iconst C (v := -1) dX7_meets_18 (by decide) ?_
    exact R _ _ _ _ h dX7_meets_19
  · have h := h.2 c
    refine zr_iload_n C 3 dX7_meets_9 rfl rfl ?_
    refine zr_if_lt C 18 dX7_meets_10 (by decide) (fun c => ?_) (fun c => ?_)
    · have h := h.1 c
      refine zr_iconst C (v := -1) dX7_meets_18 (by decide) ?_
      exact R _ _ _ _ h dX7_meets_19
    · have h := h.2 c
      refine zr_iload_n C 3 dX7_meets_13 rfl rfl ?_
      refine zr_iconst C (v := 2) dX7_meets_14 (by decide) ?_
      refine zr_icmp_le C 20 dX7_meets_15 (by decide) (fun c => ?_) (fun c => ?_)
      · have h := h.1 c
        refine zr_aload_n C 0 dX7_meets_20 rfl rfl ?_
        refine zg_X7_51 C zo_0 dX7_meets_21 ?_
        refine zr_aload_n C 0 dX7_meets_24 rfl rfl ?_
        refine zg_X7_18 C zo_0 dX7_meets_25 ?_
        refine zr_iload_n C 1 dX7_meets_28 rfl rfl ?_
        refine zr_iload_n C 2 dX7_meets_29 rfl rfl ?_
        refine zcU (zrunVN C (rest := []) (c_X3_find X.2.1 G N _ _ _ _ h) zk_X3_find znl_X7_182 (zRc_3 zo_38) (by decide) (by decide) rfl (Nat.le_of_ble_eq_true rfl) rfl dX7_meets_30) (fun M4 h => ?_)
        refine zr_aload_n C 0 dX7_meets_33 rfl rfl ?_
        refine zg_X7_51 C zo_0 dX7_meets_34 ?_
        refine zcI (zrunVN C (rest := []) (c_X3_isOver X.2.1 G N  _ _ h) zk_X3_isOver znl_X7_186 (zRc_3 zo_38) (by decide) (by decide) rfl (Nat.le_of_ble_eq_true rfl) rfl dX7_meets_37) (fun r5 M6 h => ?_)
        refine zr_if_eq C 46 dX7_meets_40 (by decide) (fun c => ?_) (fun c => ?_)
        · have h := h.1 c
          refine zr_iload_n C 3 dX7_meets_46 rfl rfl ?_
          by_cases c0 : x3 = (0 : Int32)
          · have h := h.1 c0
            refine zr_lookup C 72 dX7_meets_47 (by decide) (by rw [c0] <;> decide) (by decide) ?_
            refine zr_aload_n C 0 dX7_meets_72 rfl rfl ?_
            refine zg_X7_51 C zo_0 dX7_meets_73 ?_
            refine zg_X7_190 C zo_38 dX7_meets_76 ?_
            exact R _ _ _ _ h dX7_meets_79
          by_cases c1 : x3 = (1 : Int32)
          · have h := h.2.1 c1
            refine zr_lookup C 80 dX7_meets_47 (by decide) (by rw [c1] <;> decide) (by decide) ?_
            refine zr_aload_n C 0 dX7_meets_80 rfl rfl ?_
            refine zg_X7_51 C zo_0 dX7_meets_81 ?_
            refine zg_X7_193 C zo_38 dX7_meets_84 ?_
            refine zr_aload_n C 0 dX7_meets_87 rfl rfl ?_
            refine zg_X7_51 C zo_0 dX7_meets_88 ?_
            refine zg_X7_190 C zo_38 dX7_meets_91 ?_
            refine zr_isub C dX7_meets_94 ?_
            exact R _ _ _ _ h dX7_meets_95
          have h := h.2.2 c0 c1
          refine zr_lookup C 96 dX7_meets_47 (by decide) (zlk_dflt (zlk2 c0 c1)) (by decide) ?_
          refine zr_aload_n C 0 dX7_meets_96 rfl rfl ?_
          refine zg_X7_51 C zo_0 dX7_meets_97 ?_
          refine zg_X7_194 C zo_38 dX7_meets_100 ?_
          exact R _ _ _ _ h dX7_meets_103
        · have h := h.2 c
          refine zr_bipush C (v := -4) dX7_meets_43 (by decide) ?_
          exact R _ _ _ _ h dX7_meets_45
      · have h := h.2 c
        refine zr_iconst C (v := -1) dX7_meets_18 (by decide) ?_
        exact R _ _ _ _ h dX7_meets_19
/-! X7_meeting -/
set_option maxHeartbeats 4000000 in
set_option maxRecDepth 100000 in
theorem c_X7_meeting (l : Launch) (G : zG) (N : Nat) (x1 : Int32) (x2 : Int32) (x3 : Int32) (x4 : Int32) (M : zMem) (Q : Int32 → zMem → Prop) (h : f_X7_meeting N x1 x2 x3 x4 M Q) : zMI l G yX7_meeting cX7_meeting 5 .int 15 [zR G 0, .int x1, .int x2, .int x3, .int x4] M Q := by
  refine zEI (by decide) (Nat.le_of_ble_eq_true rfl) (lv := [(0, zR G 0), (1, .int x1), (2, .int x2), (3, .int x3), (4, .int x4)]) rfl (fun X C R => ?_)
  have C : zC G X cX7_meeting RX7 15 5 := C
  unfold f_X7_meeting at h
  refine zr_aload_n C 0 dX7_meeting_0 rfl rfl ?_
  refine zr_iload_n C 1 dX7_meeting_1 rfl rfl ?_
  refine zr_iload_n C 2 dX7_meeting_2 rfl rfl ?_
  refine zcI (zrunV C (rest := []) (c_X7_areTwoArcs X.2.1 G N _ _ _ _ h) zk_X7_areTwoArcs zl_X7_135 (zRc_6 zo_0) (by decide) (by decide) rfl (Nat.le_of_ble_eq_true rfl) rfl dX7_meeting_3) (fun r1 M2 h => ?_)
  refine zr_if_eq C 24 dX7_meeting_6 (by decide) (fun c => ?_) (fun c => ?_)
  · have h := h.1 c
    refine zr_iconst C (v := -1) dX7_meeting_24 (by decide) ?_
    exact R _ _ _ _ h dX7_meeting_25
  · have h := h.2 c
    refine zr_iload_n C 3 dX7_meeting_9 rfl rfl ?_
    refine zr_if_lt C 24 dX7_meeting_10 (by decide) (fun c => ?_) (fun c => ?_)
    · have h := h.1 c
      refine zr_iconst C (v := -1) dX7_meeting_24 (by decide) ?_
      exact R _ _ _ _ h dX7_meeting_25
    · have h := h.2 c
      refine zr_iload C 4 dX7_meeting_13 rfl ?_
      refine zr_if_lt C 24 dX7_meeting_15 (by decide) (fun c => ?_) (fun c => ?_)
      · have h := h.1 c
        refine zr_iconst C (v := -1) dX7_meeting_24 (by decide) ?_
        exact R _ _ _ _ h dX7_meeting_25
      · have h := h.2 c
        refine zr_iload C 4 dX7_meeting_18 rfl ?_
        refine zr_iconst C (v := 2) dX7_meeting_20 (by decide) ?_
        refine zr_icmp_le C 26 dX7_meeting_21 (by decide) (fun c => ?_) (fun c => ?_)
        · have h := h.1 c
          refine zr_aload_n C 0 dX7_meeting_26 rfl rfl ?_
          refine zg_X7_51 C zo_0 dX7_meeting_27 ?_
          refine zr_aload_n C 0 dX7_meeting_30 rfl rfl ?_
          refine zg_X7_18 C zo_0 dX7_meeting_31 ?_
          refine zr_iload_n C 1 dX7_meeting_34 rfl rfl ?_
          refine zr_iload_n C 2 dX7_meeting_35 rfl rfl ?_
          refine zcU (zrunVN C (rest := []) (c_X3_find X.2.1 G N _ _ _ _ h) zk_X3_find znl_X7_182 (zRc_3 zo_38) (by decide) (by decide) rfl (Nat.le_of_ble_eq_true rfl) rfl dX7_meeting_36) (fun M4 h => ?_)
          refine zr_aload_n C 0 dX7_meeting_39 rfl rfl ?_
          refine zg_X7_51 C zo_0 dX7_meeting_40 ?_
          refine zcI (zrunVN C (rest := []) (c_X3_isOver X.2.1 G N  _ _ h) zk_X3_isOver znl_X7_186 (zRc_3 zo_38) (by decide) (by decide) rfl (Nat.le_of_ble_eq_true rfl) rfl dX7_meeting_43) (fun r5 M6 h => ?_)
          refine zr_if_eq C 52 dX7_meeting_46 (by decide) (fun c => ?_) (fun c => ?_)
          · have h := h.1 c
            refine zr_iload_n C 3 dX7_meeting_52 rfl rfl ?_
            refine zr_aload_n C 0 dX7_meeting_53 rfl rfl ?_
            refine zg_X7_51 C zo_0 dX7_meeting_54 ?_
            refine zg_X7_193 C zo_38 dX7_meeting_57 ?_
            refine zr_icmp_lt C 66 dX7_meeting_60 (by decide) (fun c => ?_) (fun c => ?_)
            · have h := h.1 c
              refine zr_iload C 4 dX7_meeting_66 rfl ?_
              by_cases c0 : x4 = (0 : Int32)
              · have h := h.1 c0
                refine zr_lookup C 96 dX7_meeting_68 (by decide) (by rw [c0] <;> decide) (by decide) ?_
                refine zr_aload_n C 0 dX7_meeting_96 rfl rfl ?_
                refine zg_X7_51 C zo_0 dX7_meeting_97 ?_
                refine zg_X7_197 C zo_38 dX7_meeting_100 ?_
                refine zr_iload_n C 3 dX7_meeting_103 rfl rfl ?_
                refine zr_iald C za_39 h.1 dX7_meeting_104 ?_
                have h := h.2
                exact R _ _ _ _ h dX7_meeting_105
              by_cases c1 : x4 = (1 : Int32)
              · have h := h.2.1 c1
                refine zr_lookup C 106 dX7_meeting_68 (by decide) (by rw [c1] <;> decide) (by decide) ?_
                refine zr_aload_n C 0 dX7_meeting_106 rfl rfl ?_
                refine zg_X7_51 C zo_0 dX7_meeting_107 ?_
                refine zg_X7_200 C zo_38 dX7_meeting_110 ?_
                refine zr_iload_n C 3 dX7_meeting_113 rfl rfl ?_
                refine zr_iald C za_40 h.1 dX7_meeting_114 ?_
                have h := h.2
                exact R _ _ _ _ h dX7_meeting_115
              have h := h.2.2 c0 c1
              refine zr_lookup C 116 dX7_meeting_68 (by decide) (zlk_dflt (zlk2 c0 c1)) (by decide) ?_
              refine zr_aload_n C 0 dX7_meeting_116 rfl rfl ?_
              refine zg_X7_51 C zo_0 dX7_meeting_117 ?_
              refine zg_X7_203 C zo_38 dX7_meeting_120 ?_
              refine zr_iload_n C 3 dX7_meeting_123 rfl rfl ?_
              refine zr_iald C za_43 h.1 dX7_meeting_124 ?_
              have h := h.2
              exact R _ _ _ _ h dX7_meeting_125
            · have h := h.2 c
              refine zr_bipush C (v := -9) dX7_meeting_63 (by decide) ?_
              exact R _ _ _ _ h dX7_meeting_65
          · have h := h.2 c
            refine zr_bipush C (v := -4) dX7_meeting_49 (by decide) ?_
            exact R _ _ _ _ h dX7_meeting_51
        · have h := h.2 c
          refine zr_iconst C (v := -1) dX7_meeting_24 (by decide) ?_
          exact R _ _ _ _ h dX7_meeting_25
/-! X7_spot -/
set_option maxHeartbeats 4000000 in
set_option maxRecDepth 100000 in
theorem c_X7_spot (l : Launch) (G : zG) (N : Nat) (x1 : Int32) (x2 : Int32) (x3 : Int32) (x4 : Int32) (M : zMem) (Q : Int32 → zMem → Prop) (h : f_X7_spot N x1 x2 x3 x4 M Q) : zMI l G yX7_spot cX7_spot 5 .int 15 [zR G 0, .int x1, .int x2, .int x3, .int x4] M Q := by
  refine zEI (by decide) (Nat.le_of_ble_eq_true rfl) (lv := [(0, zR G 0), (1, .int x1), (2, .int x2), (3, .int x3), (4, .int x4)]) rfl (fun X C R => ?_)
  have C : zC G X cX7_spot RX7 15 5 := C
  unfold f_X7_spot at h
  refine zr_aload_n C 0 dX7_spot_0 rfl rfl ?_
  refine zr_iload_n C 1 dX7_spot_1 rfl rfl ?_
  refine zr_iload_n C 2 dX7_spot_2 rfl rfl ?_
  refine zcI (zrunV C (rest := []) (c_X7_areTwoArcs X.2.1 G N _ _ _ _ h) zk_X7_areTwoArcs zl_X7_135 (zRc_6 zo_0) (by decide) (by decide) rfl (Nat.le_of_ble_eq_true rfl) rfl dX7_spot_3) (fun r1 M2 h => ?_)
  refine zr_if_eq C 24 dX7_spot_6 (by decide) (fun c => ?_) (fun c => ?_)
  · have h := h.1 c
    refine zr_iconst C (v := -1) dX7_spot_24 (by decide) ?_
    exact R _ _ _ _ h dX7_spot_25
  · have h := h.2 c
    refine zr_iload_n C 3 dX7_spot_9 rfl rfl ?_
    refine zr_if_lt C 24 dX7_spot_10 (by decide) (fun c => ?_) (fun c => ?_)
    · have h := h.1 c
      refine zr_iconst C (v := -1) dX7_spot_24 (by decide) ?_
      exact R _ _ _ _ h dX7_spot_25
    · have h := h.2 c
      refine zr_iload C 4 dX7_spot_13 rfl ?_
      refine zr_if_lt C 24 dX7_spot_15 (by decide) (fun c => ?_) (fun c => ?_)
      · have h := h.1 c
        refine zr_iconst C (v := -1) dX7_spot_24 (by decide) ?_
        exact R _ _ _ _ h dX7_spot_25
      · have h := h.2 c
        refine zr_iload C 4 dX7_spot_18 rfl ?_
        refine zr_iconst C (v := 5) dX7_spot_20 (by decide) ?_
        refine zr_icmp_le C 26 dX7_spot_21 (by decide) (fun c => ?_) (fun c => ?_)
        · have h := h.1 c
          refine zr_aload_n C 0 dX7_spot_26 rfl rfl ?_
          refine zg_X7_51 C zo_0 dX7_spot_27 ?_
          refine zr_aload_n C 0 dX7_spot_30 rfl rfl ?_
          refine zg_X7_18 C zo_0 dX7_spot_31 ?_
          refine zr_iload_n C 1 dX7_spot_34 rfl rfl ?_
          refine zr_iload_n C 2 dX7_spot_35 rfl rfl ?_
          refine zcU (zrunVN C (rest := []) (c_X3_find X.2.1 G N _ _ _ _ h) zk_X3_find znl_X7_182 (zRc_3 zo_38) (by decide) (by decide) rfl (Nat.le_of_ble_eq_true rfl) rfl dX7_spot_36) (fun M4 h => ?_)
          refine zr_aload_n C 0 dX7_spot_39 rfl rfl ?_
          refine zg_X7_51 C zo_0 dX7_spot_40 ?_
          refine zcI (zrunVN C (rest := []) (c_X3_isOver X.2.1 G N  _ _ h) zk_X3_isOver znl_X7_186 (zRc_3 zo_38) (by decide) (by decide) rfl (Nat.le_of_ble_eq_true rfl) rfl dX7_spot_43) (fun r5 M6 h => ?_)
          refine zr_if_eq C 52 dX7_spot_46 (by decide) (fun c => ?_) (fun c => ?_)
          · have h := h.1 c
            refine zr_iload_n C 3 dX7_spot_52 rfl rfl ?_
            refine zr_aload_n C 0 dX7_spot_53 rfl rfl ?_
            refine zg_X7_51 C zo_0 dX7_spot_54 ?_
            refine zg_X7_194 C zo_38 dX7_spot_57 ?_
            refine zr_icmp_lt C 66 dX7_spot_60 (by decide) (fun c => ?_) (fun c => ?_)
            · have h := h.1 c
              refine zr_aload_n C 0 dX7_spot_66 rfl rfl ?_
              refine zg_X7_51 C zo_0 dX7_spot_67 ?_
              refine zr_iload_n C 3 dX7_spot_70 rfl rfl ?_
              refine zr_iload C 4 dX7_spot_71 rfl ?_
              refine zcI (zrunVN C (rest := []) (c_X3_tellSpot X.2.1 G N _ _ _ _ h) zk_X3_tellSpot znl_X7_206 (zRc_3 zo_38) (by decide) (by decide) rfl (Nat.le_of_ble_eq_true rfl) rfl dX7_spot_73) (fun r7 M8 h => ?_)
              exact R _ _ _ _ h dX7_spot_76
            · have h := h.2 c
              refine zr_bipush C (v := -9) dX7_spot_63 (by decide) ?_
              exact R _ _ _ _ h dX7_spot_65
          · have h := h.2 c
            refine zr_bipush C (v := -4) dX7_spot_49 (by decide) ?_
            exact R _ _ _ _ h dX7_spot_51
        · have h := h.2 c
          refine zr_iconst C (v := -1) dX7_spot_24 (by decide) ?_
          exact R _ _ _ _ h dX7_spot_25
/-! X7_busiest -/
set_option maxHeartbeats 4000000 in
set_option maxRecDepth 100000 in
theorem w_X7_busiest_b82 {G : zG} {X : zX} (C : zC G X cX7_busiest RX7 16 8) (N : Nat) (Q : Int32 → zMem → Prop) (R : zRI G X cX7_busiest Q) (x1 : Int32) (x2 : Int32) (x3 : Int32) (x4 : Int32) (x5 : Int32) (x6 : Int32) (k24 : Int32 → Int32 → Int32 → Int32 → zMem → Prop) (hk24 : ∀ (z2 : Int32) (z3 : Int32) (z4 : Int32) (z5 : Int32) (M : zMem), k24 z2 z3 z4 z5 M → zV G X M [(0, zR G 0), (1, .int x1), (2, .int z2), (3, .int z3), (4, .int z4), (5, .int z5)] [] 24) (k39 : Int32 → Int32 → Int32 → Int32 → zMem → Prop) (hk39 : ∀ (z2 : Int32) (z3 : Int32) (z4 : Int32) (z6 : Int32) (M : zMem), k39 z2 z3 z4 z6 M → zV G X M [(0, zR G 0), (1, .int x1), (2, .int z2), (3, .int z3), (4, .int z4), (5, .int x5), (6, .int z6)] [] 39) (M : zMem) (h : f_X7_busiest_b82 N k24 k39 x1 x2 x3 x4 x5 x6 M Q) : zV G X M [(0, zR G 0), (1, .int x1), (2, .int x2), (3, .int x3), (4, .int x4), (5, .int x5), (6, .int x6)] [] 82 := by
  unfold f_X7_busiest_b82 at h
  obtain ⟨v5, hv5⟩ : ∃ y : Int32, y = x6 + (1 : Int32) := ⟨_, rfl⟩
  have h := h v5 hv5
  refine zr_iinc C 6 [1, 2, 3, 4, 5, 6, 0] dX7_busiest_82 rfl (by rw [hv5]; rfl) (by decide) rfl (lv' := [(0, zR G 0), (1, .int x1), (2, .int x2), (3, .int x3), (4, .int x4), (5, .int x5), (6, .int v5)]) ?_
  refine zr_goto C 39 dX7_busiest_85 (by decide) ?_
  exact hk39 _ _ _ _ _ h
set_option maxHeartbeats 4000000 in
set_option maxRecDepth 100000 in
theorem w_X7_busiest_b39 {G : zG} {X : zX} (C : zC G X cX7_busiest RX7 16 8) (N : Nat) (Q : Int32 → zMem → Prop) (R : zRI G X cX7_busiest Q) (x1 : Int32) (x5 : Int32) (k24 : Int32 → Int32 → Int32 → Int32 → zMem → Prop) (hk24 : ∀ (z2 : Int32) (z3 : Int32) (z4 : Int32) (z5 : Int32) (M : zMem), k24 z2 z3 z4 z5 M → zV G X M [(0, zR G 0), (1, .int x1), (2, .int z2), (3, .int z3), (4, .int z4), (5, .int z5)] [] 24) (k39 : Int32 → Int32 → Int32 → Int32 → zMem → Prop) (hk39 : ∀ (z2 : Int32) (z3 : Int32) (z4 : Int32) (z6 : Int32) (M : zMem), k39 z2 z3 z4 z6 M → zV G X M [(0, zR G 0), (1, .int x1), (2, .int z2), (3, .int z3), (4, .int z4), (5, .int x5), (6, .int z6)] [] 39) (x2 : Int32) (x3 : Int32) (x4 : Int32) (x6 : Int32) (M : zMem) (h : f_X7_busiest_b39 N k24 k39 x1 x5 x2 x3 x4 x6 M Q) : zV G X M [(0, zR G 0), (1, .int x1), (2, .int x2), (3, .int x3), (4, .int x4), (5, .int x5), (6, .int x6)] [] 39 := by
  unfold f_X7_busiest_b39 at h
  refine zr_iload C 6 dX7_busiest_39 rfl ?_
  refine zr_aload_n C 0 dX7_busiest_41 rfl rfl ?_
  refine zg_X7_23 C zo_0 dX7_busiest_42 ?_
  refine zr_icmp_ge C 88 dX7_busiest_45 (by decide) (fun c => ?_) (fun c => ?_)
  · have h := h.1 c
    obtain ⟨v2, hv2⟩ : ∃ y : Int32, y = x5 + (1 : Int32) := ⟨_, rfl⟩
    have h := h v2 hv2
    refine zr_iinc C 5 [1, 2, 3, 4, 5, 0] dX7_busiest_88 rfl (by rw [hv2]; rfl) (by decide) rfl (lv' := [(0, zR G 0), (1, .int x1), (2, .int x2), (3, .int x3), (4, .int x4), (5, .int v2)]) ?_
    refine zr_goto C 24 dX7_busiest_91 (by decide) ?_
    exact hk24 _ _ _ _ _ h
  · have h := h.2 c
    refine zr_aload_n C 0 dX7_busiest_48 rfl rfl ?_
    refine zg_X7_51 C zo_0 dX7_busiest_49 ?_
    refine zr_aload_n C 0 dX7_busiest_52 rfl rfl ?_
    refine zg_X7_18 C zo_0 dX7_busiest_53 ?_
    refine zr_iload C 5 dX7_busiest_56 rfl ?_
    refine zr_iload C 6 dX7_busiest_58 rfl ?_
    refine zcI (zrunVN C (rest := []) (c_X3_countSpots X.2.1 G N _ _ _ _ h) zk_X3_countSpots znl_X7_209 (zRc_3 zo_38) (by decide) (by decide) rfl (Nat.le_of_ble_eq_true rfl) rfl dX7_busiest_60) (fun r3 M4 h => ?_)
    refine zr_istore C [1, 2, 3, 4, 5, 6, 7, 0] dX7_busiest_63 (by decide) rfl (lv' := [(0, zR G 0), (1, .int x1), (2, .int x2), (3, .int x3), (4, .int x4), (5, .int x5), (6, .int x6), (7, .int r3)]) ?_
    refine zr_iload C 7 dX7_busiest_65 rfl ?_
    refine zr_iload C 4 dX7_busiest_67 rfl ?_
    refine zr_icmp_le C 82 dX7_busiest_69 (by decide) (fun c => ?_) (fun c => ?_)
    · have h := h.1 c
      refine zr_sub [0, 1, 2, 3, 4, 5, 6] rfl (lv' := [(0, zR G 0), (1, .int x1), (2, .int x2), (3, .int x3), (4, .int x4), (5, .int x5), (6, .int x6)]) ?_
      exact w_X7_busiest_b82 C N Q R _ _ _ _ _ _ _ hk24 _ hk39 _ h
    · have h := h.2 c
      refine zr_iload C 5 dX7_busiest_72 rfl ?_
      refine zr_istore_n C [1, 2, 0, 5, 6, 7] dX7_busiest_74 rfl (by decide) rfl (lv' := [(0, zR G 0), (1, .int x1), (2, .int x5), (5, .int x5), (6, .int x6), (7, .int r3)]) ?_
      refine zr_iload C 4 dX7_busiest_75 rfl ?_
      refine zr_istore_n C [1, 2, 3, 0, 4, 5, 6] dX7_busiest_77 rfl (by decide) rfl (lv' := [(0, zR G 0), (1, .int x1), (2, .int x5), (3, .int x6), (5, .int x5), (6, .int x6), (7, .int r3)]) ?_
      refine zr_iload C 6 dX7_busiest_78 rfl ?_
      refine zr_istore C [1, 2, 3, 4, 0, 5, 6] dX7_busiest_80 (by decide) rfl (lv' := [(0, zR G 0), (1, .int x1), (2, .int x5), (3, .int x6), (4, .int r3), (5, .int x5), (6, .int x6)]) ?_
      exact w_X7_busiest_b82 C N Q R _ _ _ _ _ _ _ hk24 _ hk39 _ h
theorem w_X7_busiest_l39 {G : zG} {X : zX} (C : zC G X cX7_busiest RX7 16 8) (N : Nat) (Q : Int32 → zMem → Prop) (R : zRI G X cX7_busiest Q) (x1 : Int32) (x5 : Int32) (k24 : Int32 → Int32 → Int32 → Int32 → zMem → Prop) (hk24 : ∀ (z2 : Int32) (z3 : Int32) (z4 : Int32) (z5 : Int32) (M : zMem), k24 z2 z3 z4 z5 M → zV G X M [(0, zR G 0), (1, .int x1), (2, .int z2), (3, .int z3), (4, .int z4), (5, .int z5)] [] 24) : ∀ (n : Nat) (x2 : Int32) (x3 : Int32) (x4 : Int32) (x6 : Int32) (M : zMem), f_X7_busiest_l39 N k24 x1 x5 Q n x2 x3 x4 x6 M → zV G X M [(0, zR G 0), (1, .int x1), (2, .int x2), (3, .int x3), (4, .int x4), (5, .int x5), (6, .int x6)] [] 39 := by
  intro n
  induction n with
  | zero => intro x2 x3 x4 x6 M h; exact h.elim
  | succ n ih =>
    intro x2 x3 x4 x6 M h
    exact w_X7_busiest_b39 C N Q R x1 x5 k24 hk24 _ ih x2 x3 x4 x6 M h
set_option maxHeartbeats 4000000 in
set_option maxRecDepth 100000 in
theorem w_X7_busiest_b24 {G : zG} {X : zX} (C : zC G X cX7_busiest RX7 16 8) (N : Nat) (Q : Int32 → zMem → Prop) (R : zRI G X cX7_busiest Q) (x1 : Int32) (k24 : Int32 → Int32 → Int32 → Int32 → zMem → Prop) (hk24 : ∀ (z2 : Int32) (z3 : Int32) (z4 : Int32) (z5 : Int32) (M : zMem), k24 z2 z3 z4 z5 M → zV G X M [(0, zR G 0), (1, .int x1), (2, .int z2), (3, .int z3), (4, .int z4), (5, .int z5)] [] 24) (x2 : Int32) (x3 : Int32) (x4 : Int32) (x5 : Int32) (M : zMem) (h : f_X7_busiest_b24 N k24 x1 x2 x3 x4 x5 M Q) : zV G X M [(0, zR G 0), (1, .int x1), (2, .int x2), (3, .int x3), (4, .int x4), (5, .int x5)] [] 24 := by
  unfold f_X7_busiest_b24 at h
  refine zr_iload C 5 dX7_busiest_24 rfl ?_
  refine zr_aload_n C 0 dX7_busiest_26 rfl rfl ?_
  refine zg_X7_23 C zo_0 dX7_busiest_27 ?_
  refine zr_icmp_ge C 94 dX7_busiest_30 (by decide) (fun c => ?_) (fun c => ?_)
  · have h := h.1 c
    refine zr_iload_n C 1 dX7_busiest_94 rfl rfl ?_
    by_cases c0 : x1 = (0 : Int32)
    · have h := h.1 c0
      refine zr_lookup C 120 dX7_busiest_95 (by decide) (by rw [c0] <;> decide) (by decide) ?_
      refine zr_iload_n C 2 dX7_busiest_120 rfl rfl ?_
      exact R _ _ _ _ h dX7_busiest_121
    by_cases c1 : x1 = (1 : Int32)
    · have h := h.2.1 c1
      refine zr_lookup C 122 dX7_busiest_95 (by decide) (by rw [c1] <;> decide) (by decide) ?_
      refine zr_iload_n C 3 dX7_busiest_122 rfl rfl ?_
      exact R _ _ _ _ h dX7_busiest_123
    have h := h.2.2 c0 c1
    refine zr_lookup C 124 dX7_busiest_95 (by decide) (zlk_dflt (zlk2 c0 c1)) (by decide) ?_
    refine zr_iload C 4 dX7_busiest_124 rfl ?_
    exact R _ _ _ _ h dX7_busiest_126
  · have h := h.2 c
    refine zr_iload C 5 dX7_busiest_33 rfl ?_
    refine zr_iconst C (v := 1) dX7_busiest_35 (by decide) ?_
    refine zr_iadd C dX7_busiest_36 ?_
    refine zr_letI (fun v1 hv1 => ?_)
    have h := h v1 hv1
    refine zr_istore C [1, 2, 3, 4, 5, 6, 0] dX7_busiest_37 (by decide) rfl (lv' := [(0, zR G 0), (1, .int x1), (2, .int x2), (3, .int x3), (4, .int x4), (5, .int x5), (6, .int v1)]) ?_
    exact w_X7_busiest_l39 C N Q R _ _ _ hk24 N _ _ _ _ _ h
theorem w_X7_busiest_l24 {G : zG} {X : zX} (C : zC G X cX7_busiest RX7 16 8) (N : Nat) (Q : Int32 → zMem → Prop) (R : zRI G X cX7_busiest Q) (x1 : Int32) : ∀ (n : Nat) (x2 : Int32) (x3 : Int32) (x4 : Int32) (x5 : Int32) (M : zMem), f_X7_busiest_l24 N x1 Q n x2 x3 x4 x5 M → zV G X M [(0, zR G 0), (1, .int x1), (2, .int x2), (3, .int x3), (4, .int x4), (5, .int x5)] [] 24 := by
  intro n
  induction n with
  | zero => intro x2 x3 x4 x5 M h; exact h.elim
  | succ n ih =>
    intro x2 x3 x4 x5 M h
    exact w_X7_busiest_b24 C N Q R x1  _ ih x2 x3 x4 x5 M h
set_option maxHeartbeats 4000000 in
set_option maxRecDepth 100000 in
theorem c_X7_busiest (l : Launch) (G : zG) (N : Nat) (x1 : Int32) (M : zMem) (Q : Int32 → zMem → Prop) (h : f_X7_busiest N x1 M Q) : zMI l G yX7_busiest cX7_busiest 8 .int 16 [zR G 0, .int x1] M Q := by
  refine zEI (by decide) (Nat.le_of_ble_eq_true rfl) (lv := [(0, zR G 0), (1, .int x1)]) rfl (fun X C R => ?_)
  have C : zC G X cX7_busiest RX7 16 8 := C
  unfold f_X7_busiest at h
  refine zr_iload_n C 1 dX7_busiest_0 rfl rfl ?_
  refine zr_if_lt C 9 dX7_busiest_1 (by decide) (fun c => ?_) (fun c => ?_)
  · have h := h.1 c
    refine zr_iconst C (v := -1) dX7_busiest_9 (by decide) ?_
    exact R _ _ _ _ h dX7_busiest_10
  · have h := h.2 c
    refine zr_iload_n C 1 dX7_busiest_4 rfl rfl ?_
    refine zr_iconst C (v := 2) dX7_busiest_5 (by decide) ?_
    refine zr_icmp_le C 11 dX7_busiest_6 (by decide) (fun c => ?_) (fun c => ?_)
    · have h := h.1 c
      refine zr_bipush C (v := -9) dX7_busiest_11 (by decide) ?_
      refine zr_istore_n C [1, 2, 0] dX7_busiest_13 rfl (by decide) rfl (lv' := [(0, zR G 0), (1, .int x1), (2, .int (-9 : Int32))]) ?_
      refine zr_bipush C (v := -9) dX7_busiest_14 (by decide) ?_
      refine zr_istore_n C [1, 2, 3, 0] dX7_busiest_16 rfl (by decide) rfl (lv' := [(0, zR G 0), (1, .int x1), (2, .int (-9 : Int32)), (3, .int (-9 : Int32))]) ?_
      refine zr_bipush C (v := -9) dX7_busiest_17 (by decide) ?_
      refine zr_istore C [1, 2, 3, 4, 0] dX7_busiest_19 (by decide) rfl (lv' := [(0, zR G 0), (1, .int x1), (2, .int (-9 : Int32)), (3, .int (-9 : Int32)), (4, .int (-9 : Int32))]) ?_
      refine zr_iconst C (v := 0) dX7_busiest_21 (by decide) ?_
      refine zr_istore C [1, 2, 3, 4, 5, 0] dX7_busiest_22 (by decide) rfl (lv' := [(0, zR G 0), (1, .int x1), (2, .int (-9 : Int32)), (3, .int (-9 : Int32)), (4, .int (-9 : Int32)), (5, .int (0 : Int32))]) ?_
      exact w_X7_busiest_l24 C N Q R _ N _ _ _ _ _ h
    · have h := h.2 c
      refine zr_iconst C (v := -1) dX7_busiest_9 (by decide) ?_
      exact R _ _ _ _ h dX7_busiest_10
/-! X7_sees -/
set_option maxHeartbeats 4000000 in
set_option maxRecDepth 100000 in
theorem c_X7_sees (l : Launch) (G : zG) (N : Nat) (x1 : Int32) (x2 : Int32) (M : zMem) (Q : Int32 → zMem → Prop) (h : f_X7_sees N x1 x2 M Q) : zMI l G yX7_sees cX7_sees 3 .int 1 [zR G 0, .int x1, .int x2] M Q := by
  refine zEI (by decide) (Nat.le_of_ble_eq_true rfl) (lv := [(0, zR G 0), (1, .int x1), (2, .int x2)]) rfl (fun X C R => ?_)
  have C : zC G X cX7_sees RX7 1 3 := C
  unfold f_X7_sees at h
  refine zr_aload_n C 0 dX7_sees_0 rfl rfl ?_
  refine zr_iload_n C 1 dX7_sees_1 rfl rfl ?_
  refine zcI (zrunV C (rest := []) (c_X7_isArc X.2.1 G N _ _ _ h) zk_X7_isArc zl_X7_88 (zRc_6 zo_0) (by decide) (by decide) rfl (Nat.le_of_ble_eq_true rfl) rfl dX7_sees_2) (fun r1 M2 h => ?_)
  refine zr_if_eq C 18 dX7_sees_5 (by decide) (fun c => ?_) (fun c => ?_)
  · have h := h.1 c
    refine zr_iconst C (v := -1) dX7_sees_18 (by decide) ?_
    exact R _ _ _ _ h dX7_sees_19
  · have h := h.2 c
    refine zr_iload_n C 2 dX7_sees_8 rfl rfl ?_
    refine zr_if_lt C 18 dX7_sees_9 (by decide) (fun c => ?_) (fun c => ?_)
    · have h := h.1 c
      refine zr_iconst C (v := -1) dX7_sees_18 (by decide) ?_
      exact R _ _ _ _ h dX7_sees_19
    · have h := h.2 c
      refine zr_iload_n C 2 dX7_sees_12 rfl rfl ?_
      refine zr_bipush C (v := 101) dX7_sees_13 (by decide) ?_
      refine zr_icmp_le C 20 dX7_sees_15 (by decide) (fun c => ?_) (fun c => ?_)
      · have h := h.1 c
        refine zr_aload_n C 0 dX7_sees_20 rfl rfl ?_
        refine zg_X7_44 C zo_0 dX7_sees_21 ?_
        refine zg_X7_81 C zo_35 dX7_sees_24 ?_
        refine zr_bipush C (v := 6) dX7_sees_27 (by decide) ?_
        refine zr_icmp_lt C 35 dX7_sees_29 (by decide) (fun c => ?_) (fun c => ?_)
        · have h := h.1 c
          refine zr_aload_n C 0 dX7_sees_35 rfl rfl ?_
          refine zg_X7_44 C zo_0 dX7_sees_36 ?_
          refine zr_iload_n C 1 dX7_sees_39 rfl rfl ?_
          refine zr_iload_n C 2 dX7_sees_40 rfl rfl ?_
          refine zcI (zrunVN C (rest := []) (c_X6_adds X.2.1 G N _ _ _ _ h) zk_X6_adds znl_X7_213 (zRc_5 zo_35) (by decide) (by decide) rfl (Nat.le_of_ble_eq_true rfl) rfl dX7_sees_41) (fun r3 M4 h => ?_)
          exact R _ _ _ _ h dX7_sees_44
        · have h := h.2 c
          refine zr_bipush C (v := -3) dX7_sees_32 (by decide) ?_
          exact R _ _ _ _ h dX7_sees_34
      · have h := h.2 c
        refine zr_iconst C (v := -1) dX7_sees_18 (by decide) ?_
        exact R _ _ _ _ h dX7_sees_19
/-! X7_forget -/
set_option maxHeartbeats 4000000 in
set_option maxRecDepth 100000 in
theorem c_X7_forget (l : Launch) (G : zG) (N : Nat)  (M : zMem) (Q : Int32 → zMem → Prop) (h : f_X7_forget N  M Q) : zMI l G yX7_forget cX7_forget 2 .int 0 [zR G 0] M Q := by
  refine zEI (by decide) (Nat.le_of_ble_eq_true rfl) (lv := [(0, zR G 0)]) rfl (fun X C R => ?_)
  have C : zC G X cX7_forget RX7 0 2 := C
  unfold f_X7_forget at h
  refine zr_aload_n C 0 dX7_forget_0 rfl rfl ?_
  refine zg_X7_44 C zo_0 dX7_forget_1 ?_
  refine zg_X7_81 C zo_35 dX7_forget_4 ?_
  refine zr_letI (fun v1 hv1 => ?_)
  have h := h v1 hv1
  refine zr_istore_n C [1, 0] dX7_forget_7 rfl (by decide) rfl (lv' := [(0, zR G 0), (1, .int v1)]) ?_
  refine zr_aload_n C 0 dX7_forget_8 rfl rfl ?_
  refine zg_X7_44 C zo_0 dX7_forget_9 ?_
  refine zr_iconst C (v := 0) dX7_forget_12 (by decide) ?_
  refine zp_X7_81 C zo_35 dX7_forget_13 ?_
  refine zr_letM (fun M2 hM2 => ?_)
  have h := h M2 hM2
  refine zr_iload_n C 1 dX7_forget_16 rfl rfl ?_
  exact R _ _ _ _ h dX7_forget_17
/-! X7_unseen -/
set_option maxHeartbeats 4000000 in
set_option maxRecDepth 100000 in
theorem w_X7_unseen_b90 {G : zG} {X : zX} (C : zC G X cX7_unseen RX7 16 5) (N : Nat) (Q : Int32 → zMem → Prop) (R : zRI G X cX7_unseen Q) (x1 : Int32) (x2 : Int32) (k4 : Int32 → Int32 → zMem → Prop) (hk4 : ∀ (z1 : Int32) (z2 : Int32) (M : zMem), k4 z1 z2 M → zV G X M [(0, zR G 0), (1, .int z1), (2, .int z2)] [] 4) (M : zMem) (h : f_X7_unseen_b90 N k4 x1 x2 M Q) : zV G X M [(0, zR G 0), (1, .int x1), (2, .int x2)] [] 90 := by
  unfold f_X7_unseen_b90 at h
  obtain ⟨v1, hv1⟩ : ∃ y : Int32, y = x2 + (1 : Int32) := ⟨_, rfl⟩
  have h := h v1 hv1
  refine zr_iinc C 2 [1, 2, 0] dX7_unseen_90 rfl (by rw [hv1]; rfl) (by decide) rfl (lv' := [(0, zR G 0), (1, .int x1), (2, .int v1)]) ?_
  refine zr_goto C 4 dX7_unseen_93 (by decide) ?_
  exact hk4 _ _ _ h
set_option maxHeartbeats 4000000 in
set_option maxRecDepth 100000 in
theorem w_X7_unseen_b80 {G : zG} {X : zX} (C : zC G X cX7_unseen RX7 16 5) (N : Nat) (Q : Int32 → zMem → Prop) (R : zRI G X cX7_unseen Q) (x1 : Int32) (x2 : Int32) (x3 : Int32) (k4 : Int32 → Int32 → zMem → Prop) (hk4 : ∀ (z1 : Int32) (z2 : Int32) (M : zMem), k4 z1 z2 M → zV G X M [(0, zR G 0), (1, .int z1), (2, .int z2)] [] 4) (M : zMem) (h : f_X7_unseen_b80 N k4 x1 x2 x3 M Q) : zV G X M [(0, zR G 0), (1, .int x1), (2, .int x2), (3, .int x3)] [] 80 := by
  unfold f_X7_unseen_b80 at h
  refine zr_iload_n C 3 dX7_unseen_80 rfl rfl ?_
  refine zr_if_eq C 90 dX7_unseen_81 (by decide) (fun c => ?_) (fun c => ?_)
  · have h := h.1 c
    refine zr_sub [0, 1, 2] rfl (lv' := [(0, zR G 0), (1, .int x1), (2, .int x2)]) ?_
    exact w_X7_unseen_b90 C N Q R _ _ _ hk4 _ h
  · have h := h.2 c
    refine zr_iload_n C 1 dX7_unseen_84 rfl rfl ?_
    refine zr_iconst C (v := 1) dX7_unseen_85 (by decide) ?_
    refine zr_iload_n C 2 dX7_unseen_86 rfl rfl ?_
    refine zr_ishl C dX7_unseen_87 ?_
    refine zr_ior C dX7_unseen_88 ?_
    refine zr_letI (fun v2 hv2 => ?_)
    have h := h v2 hv2
    refine zr_istore_n C [1, 0, 2] dX7_unseen_89 rfl (by decide) rfl (lv' := [(0, zR G 0), (1, .int v2), (2, .int x2)]) ?_
    exact w_X7_unseen_b90 C N Q R _ _ _ hk4 _ h
set_option maxHeartbeats 4000000 in
set_option maxRecDepth 100000 in
theorem w_X7_unseen_b73 {G : zG} {X : zX} (C : zC G X cX7_unseen RX7 16 5) (N : Nat) (Q : Int32 → zMem → Prop) (R : zRI G X cX7_unseen Q) (x1 : Int32) (x2 : Int32) (x4 : Int32) (s0 : Int32) (k4 : Int32 → Int32 → zMem → Prop) (hk4 : ∀ (z1 : Int32) (z2 : Int32) (M : zMem), k4 z1 z2 M → zV G X M [(0, zR G 0), (1, .int z1), (2, .int z2)] [] 4) (k17 : Int32 → Int32 → zMem → Prop) (hk17 : ∀ (z3 : Int32) (z4 : Int32) (M : zMem), k17 z3 z4 M → zV G X M [(0, zR G 0), (1, .int x1), (2, .int x2), (3, .int z3), (4, .int z4)] [] 17) (M : zMem) (h : f_X7_unseen_b73 N k4 k17 x1 x2 x4 s0 M Q) : zV G X M [(0, zR G 0), (1, .int x1), (2, .int x2), (4, .int x4)] [.int s0] 73 := by
  unfold f_X7_unseen_b73 at h
  refine zr_istore_n C [1, 2, 3, 0, 4] dX7_unseen_73 rfl (by decide) rfl (lv' := [(0, zR G 0), (1, .int x1), (2, .int x2), (3, .int s0), (4, .int x4)]) ?_
  obtain ⟨v5, hv5⟩ : ∃ y : Int32, y = x4 + (1 : Int32) := ⟨_, rfl⟩
  have h := h v5 hv5
  refine zr_iinc C 4 [1, 2, 3, 4, 0] dX7_unseen_74 rfl (by rw [hv5]; rfl) (by decide) rfl (lv' := [(0, zR G 0), (1, .int x1), (2, .int x2), (3, .int s0), (4, .int v5)]) ?_
  refine zr_goto C 17 dX7_unseen_77 (by decide) ?_
  exact hk17 _ _ _ h
set_option maxHeartbeats 4000000 in
set_option maxRecDepth 100000 in
theorem w_X7_unseen_b17 {G : zG} {X : zX} (C : zC G X cX7_unseen RX7 16 5) (N : Nat) (Q : Int32 → zMem → Prop) (R : zRI G X cX7_unseen Q) (x1 : Int32) (x2 : Int32) (k4 : Int32 → Int32 → zMem → Prop) (hk4 : ∀ (z1 : Int32) (z2 : Int32) (M : zMem), k4 z1 z2 M → zV G X M [(0, zR G 0), (1, .int z1), (2, .int z2)] [] 4) (k17 : Int32 → Int32 → zMem → Prop) (hk17 : ∀ (z3 : Int32) (z4 : Int32) (M : zMem), k17 z3 z4 M → zV G X M [(0, zR G 0), (1, .int x1), (2, .int x2), (3, .int z3), (4, .int z4)] [] 17) (x3 : Int32) (x4 : Int32) (M : zMem) (h : f_X7_unseen_b17 N k4 k17 x1 x2 x3 x4 M Q) : zV G X M [(0, zR G 0), (1, .int x1), (2, .int x2), (3, .int x3), (4, .int x4)] [] 17 := by
  unfold f_X7_unseen_b17 at h
  refine zr_iload C 4 dX7_unseen_17 rfl ?_
  refine zr_aload_n C 0 dX7_unseen_19 rfl rfl ?_
  refine zg_X7_44 C zo_0 dX7_unseen_20 ?_
  refine zg_X7_81 C zo_35 dX7_unseen_23 ?_
  refine zr_icmp_ge C 80 dX7_unseen_26 (by decide) (fun c => ?_) (fun c => ?_)
  · have h := h.1 c
    refine zr_sub [0, 1, 2, 3] rfl (lv' := [(0, zR G 0), (1, .int x1), (2, .int x2), (3, .int x3)]) ?_
    exact w_X7_unseen_b80 C N Q R _ _ _ _ hk4 _ h
  · have h := h.2 c
    refine zr_iload_n C 3 dX7_unseen_29 rfl rfl ?_
    refine zr_if_eq C 80 dX7_unseen_30 (by decide) (fun c => ?_) (fun c => ?_)
    · have h := h.1 c
      refine zr_sub [0, 1, 2, 3] rfl (lv' := [(0, zR G 0), (1, .int x1), (2, .int x2), (3, .int x3)]) ?_
      exact w_X7_unseen_b80 C N Q R _ _ _ _ hk4 _ h
    · have h := h.2 c
      refine zr_aload_n C 0 dX7_unseen_33 rfl rfl ?_
      refine zg_X7_51 C zo_0 dX7_unseen_34 ?_
      refine zr_aload_n C 0 dX7_unseen_37 rfl rfl ?_
      refine zg_X7_18 C zo_0 dX7_unseen_38 ?_
      refine zr_iload_n C 2 dX7_unseen_41 rfl rfl ?_
      refine zr_aload_n C 0 dX7_unseen_42 rfl rfl ?_
      refine zg_X7_44 C zo_0 dX7_unseen_43 ?_
      refine zg_X7_215 C zo_35 dX7_unseen_46 ?_
      refine zr_iload C 4 dX7_unseen_49 rfl ?_
      refine zr_iald C za_36 h.1 dX7_unseen_51 ?_
      have h := h.2
      refine zcI (zrunVN C (rest := []) (c_X3_countSpots X.2.1 G N _ _ _ _ h) zk_X3_countSpots znl_X7_209 (zRc_3 zo_38) (by decide) (by decide) rfl (Nat.le_of_ble_eq_true rfl) rfl dX7_unseen_52) (fun r3 M4 h => ?_)
      refine zr_aload_n C 0 dX7_unseen_55 rfl rfl ?_
      refine zg_X7_44 C zo_0 dX7_unseen_56 ?_
      refine zg_X7_218 C zo_35 dX7_unseen_59 ?_
      refine zr_iload C 4 dX7_unseen_62 rfl ?_
      refine zr_iald C za_37 h.1 dX7_unseen_64 ?_
      have h := h.2
      refine zr_icmp_ne C 72 dX7_unseen_65 (by decide) (fun c => ?_) (fun c => ?_)
      · have h := h.1 c
        refine zr_iconst C (v := 0) dX7_unseen_72 (by decide) ?_
        refine zr_sub [0, 1, 2, 4] rfl (lv' := [(0, zR G 0), (1, .int x1), (2, .int x2), (4, .int x4)]) ?_
        exact w_X7_unseen_b73 C N Q R _ _ _ _ _ hk4 _ hk17 _ h
      · have h := h.2 c
        refine zr_iconst C (v := 1) dX7_unseen_68 (by decide) ?_
        refine zr_goto C 73 dX7_unseen_69 (by decide) ?_
        refine zr_sub [0, 1, 2, 4] rfl (lv' := [(0, zR G 0), (1, .int x1), (2, .int x2), (4, .int x4)]) ?_
        exact w_X7_unseen_b73 C N Q R _ _ _ _ _ hk4 _ hk17 _ h
theorem w_X7_unseen_l17 {G : zG} {X : zX} (C : zC G X cX7_unseen RX7 16 5) (N : Nat) (Q : Int32 → zMem → Prop) (R : zRI G X cX7_unseen Q) (x1 : Int32) (x2 : Int32) (k4 : Int32 → Int32 → zMem → Prop) (hk4 : ∀ (z1 : Int32) (z2 : Int32) (M : zMem), k4 z1 z2 M → zV G X M [(0, zR G 0), (1, .int z1), (2, .int z2)] [] 4) : ∀ (n : Nat) (x3 : Int32) (x4 : Int32) (M : zMem), f_X7_unseen_l17 N k4 x1 x2 Q n x3 x4 M → zV G X M [(0, zR G 0), (1, .int x1), (2, .int x2), (3, .int x3), (4, .int x4)] [] 17 := by
  intro n
  induction n with
  | zero => intro x3 x4 M h; exact h.elim
  | succ n ih =>
    intro x3 x4 M h
    exact w_X7_unseen_b17 C N Q R x1 x2 k4 hk4 _ ih x3 x4 M h
set_option maxHeartbeats 4000000 in
set_option maxRecDepth 100000 in
theorem w_X7_unseen_b4 {G : zG} {X : zX} (C : zC G X cX7_unseen RX7 16 5) (N : Nat) (Q : Int32 → zMem → Prop) (R : zRI G X cX7_unseen Q) (k4 : Int32 → Int32 → zMem → Prop) (hk4 : ∀ (z1 : Int32) (z2 : Int32) (M : zMem), k4 z1 z2 M → zV G X M [(0, zR G 0), (1, .int z1), (2, .int z2)] [] 4) (x1 : Int32) (x2 : Int32) (M : zMem) (h : f_X7_unseen_b4 N k4 x1 x2 M Q) : zV G X M [(0, zR G 0), (1, .int x1), (2, .int x2)] [] 4 := by
  unfold f_X7_unseen_b4 at h
  refine zr_iload_n C 2 dX7_unseen_4 rfl rfl ?_
  refine zr_aload_n C 0 dX7_unseen_5 rfl rfl ?_
  refine zg_X7_23 C zo_0 dX7_unseen_6 ?_
  refine zr_icmp_ge C 96 dX7_unseen_9 (by decide) (fun c => ?_) (fun c => ?_)
  · have h := h.1 c
    refine zr_iload_n C 1 dX7_unseen_96 rfl rfl ?_
    exact R _ _ _ _ h dX7_unseen_97
  · have h := h.2 c
    refine zr_iconst C (v := 1) dX7_unseen_12 (by decide) ?_
    refine zr_istore_n C [1, 2, 3, 0] dX7_unseen_13 rfl (by decide) rfl (lv' := [(0, zR G 0), (1, .int x1), (2, .int x2), (3, .int (1 : Int32))]) ?_
    refine zr_iconst C (v := 0) dX7_unseen_14 (by decide) ?_
    refine zr_istore C [1, 2, 3, 4, 0] dX7_unseen_15 (by decide) rfl (lv' := [(0, zR G 0), (1, .int x1), (2, .int x2), (3, .int (1 : Int32)), (4, .int (0 : Int32))]) ?_
    exact w_X7_unseen_l17 C N Q R _ _ _ hk4 N _ _ _ h
theorem w_X7_unseen_l4 {G : zG} {X : zX} (C : zC G X cX7_unseen RX7 16 5) (N : Nat) (Q : Int32 → zMem → Prop) (R : zRI G X cX7_unseen Q)  : ∀ (n : Nat) (x1 : Int32) (x2 : Int32) (M : zMem), f_X7_unseen_l4 N  Q n x1 x2 M → zV G X M [(0, zR G 0), (1, .int x1), (2, .int x2)] [] 4 := by
  intro n
  induction n with
  | zero => intro x1 x2 M h; exact h.elim
  | succ n ih =>
    intro x1 x2 M h
    exact w_X7_unseen_b4 C N Q R   _ ih x1 x2 M h
set_option maxHeartbeats 4000000 in
set_option maxRecDepth 100000 in
theorem c_X7_unseen (l : Launch) (G : zG) (N : Nat)  (M : zMem) (Q : Int32 → zMem → Prop) (h : f_X7_unseen N  M Q) : zMI l G yX7_unseen cX7_unseen 5 .int 16 [zR G 0] M Q := by
  refine zEI (by decide) (Nat.le_of_ble_eq_true rfl) (lv := [(0, zR G 0)]) rfl (fun X C R => ?_)
  have C : zC G X cX7_unseen RX7 16 5 := C
  unfold f_X7_unseen at h
  refine zr_iconst C (v := 0) dX7_unseen_0 (by decide) ?_
  refine zr_istore_n C [1, 0] dX7_unseen_1 rfl (by decide) rfl (lv' := [(0, zR G 0), (1, .int (0 : Int32))]) ?_
  refine zr_iconst C (v := 0) dX7_unseen_2 (by decide) ?_
  refine zr_istore_n C [1, 2, 0] dX7_unseen_3 rfl (by decide) rfl (lv' := [(0, zR G 0), (1, .int (0 : Int32)), (2, .int (0 : Int32))]) ?_
  exact w_X7_unseen_l4 C N Q R  N _ _ _ h
/-! X7_isImage -/
set_option maxHeartbeats 4000000 in
set_option maxRecDepth 100000 in
theorem c_X7_isImage (l : Launch) (G : zG) (N : Nat) (x0 : Int32) (M : zMem) (Q : Int32 → zMem → Prop) (h : f_X7_isImage N x0 M Q) : zMI l G yX7_isImage cX7_isImage 1 .boolean 0 [.int x0] M Q := by
  refine zEZ (by decide) (Nat.le_of_ble_eq_true rfl) (lv := [(0, .int x0)]) rfl (fun X C R => ?_)
  have C : zC G X cX7_isImage RX7 0 1 := C
  unfold f_X7_isImage at h
  refine zr_iload_n C 0 dX7_isImage_0 rfl rfl ?_
  refine zr_if_lt C 13 dX7_isImage_1 (by decide) (fun c => ?_) (fun c => ?_)
  · have h := h.1 c
    refine zr_iconst C (v := 0) dX7_isImage_13 (by decide) ?_
    exact R _ _ _ _ zb_0.1 h dX7_isImage_14
  · have h := h.2 c
    refine zr_iload_n C 0 dX7_isImage_4 rfl rfl ?_
    refine zr_iconst C (v := 2) dX7_isImage_5 (by decide) ?_
    refine zr_icmp_ge C 13 dX7_isImage_6 (by decide) (fun c => ?_) (fun c => ?_)
    · have h := h.1 c
      refine zr_iconst C (v := 0) dX7_isImage_13 (by decide) ?_
      exact R _ _ _ _ zb_0.1 h dX7_isImage_14
    · have h := h.2 c
      refine zr_iconst C (v := 1) dX7_isImage_9 (by decide) ?_
      refine zr_goto C 14 dX7_isImage_10 (by decide) ?_
      exact R _ _ _ _ zb_1.1 h dX7_isImage_14
/-! X7_keep -/
set_option maxHeartbeats 4000000 in
set_option maxRecDepth 100000 in
theorem w_X7_keep_b21 {G : zG} {X : zX} (C : zC G X cX7_keep RX7 1 3) (N : Nat) (Q : Int32 → zMem → Prop) (R : zRI G X cX7_keep Q) (x1 : Int32) (k21 : Int32 → zMem → Prop) (hk21 : ∀ (z2 : Int32) (M : zMem), k21 z2 M → zV G X M [(0, zR G 0), (1, .int x1), (2, .int z2)] [] 21) (x2 : Int32) (M : zMem) (h : f_X7_keep_b21 N k21 x1 x2 M Q) : zV G X M [(0, zR G 0), (1, .int x1), (2, .int x2)] [] 21 := by
  unfold f_X7_keep_b21 at h
  refine zr_iload_n C 2 dX7_keep_21 rfl rfl ?_
  refine zr_aload_n C 0 dX7_keep_22 rfl rfl ?_
  refine zg_X7_23 C zo_0 dX7_keep_23 ?_
  refine zr_icmp_ge C 62 dX7_keep_26 (by decide) (fun c => ?_) (fun c => ?_)
  · have h := h.1 c
    refine zr_aload_n C 0 dX7_keep_62 rfl rfl ?_
    refine zg_X7_23 C zo_0 dX7_keep_63 ?_
    exact R _ _ _ _ h dX7_keep_66
  · have h := h.2 c
    refine zr_aload_n C 0 dX7_keep_29 rfl rfl ?_
    refine zg_X7_18 C zo_0 dX7_keep_30 ?_
    refine zr_iload_n C 2 dX7_keep_33 rfl rfl ?_
    have hi4 := h.1
    have h := h.2
    refine zr_aald C hi4 dX7_keep_34 ?_
    refine zg_X7_110 C (zkdAi hi4) dX7_keep_35 ?_
    refine zr_iconst C (v := 0) dX7_keep_38 (by decide) ?_
    refine zr_aload_n C 0 dX7_keep_39 rfl rfl ?_
    refine zg_X7_37 C zo_0 dX7_keep_40 ?_
    refine zg_X7_228 C zo_32 dX7_keep_43 ?_
    refine zr_iload_n C 1 dX7_keep_46 rfl rfl ?_
    refine zr_iload_n C 2 dX7_keep_47 rfl rfl ?_
    refine zcI (zrunSN C (rest := [zR G 34, .int (0 : Int32), zR G ((5 + 6 * x2.toNatClampNeg) + 1)]) (c_X2_place X.2.1 G N _ _ _ _ h) zk_X2_place znl_X7_229 (by decide) (by decide) rfl (Nat.le_of_ble_eq_true rfl) rfl dX7_keep_48) (fun r5 M6 h => ?_)
    refine zr_bipush C (v := 8) dX7_keep_51 (by decide) ?_
    refine zr_copy C (zkd0_1 (zkdAi hi4)) za_34 zlm_X7_232 zw2_copy (by decide) (Nat.le_of_ble_eq_true rfl) h.1 h.2.1 h.2.2.1 h.2.2.2.1 h.2.2.2.2.1 dX7_keep_53 ?_
    have h := h.2.2.2.2.2
    refine zr_letM (fun M7 hM7 => ?_)
    have h := h M7 hM7
    obtain ⟨v8, hv8⟩ : ∃ y : Int32, y = x2 + (1 : Int32) := ⟨_, rfl⟩
    have h := h v8 hv8
    refine zr_iinc C 2 [1, 2, 0] dX7_keep_56 rfl (by rw [hv8]; rfl) (by decide) rfl (lv' := [(0, zR G 0), (1, .int x1), (2, .int v8)]) ?_
    refine zr_goto C 21 dX7_keep_59 (by decide) ?_
    exact hk21 _ _ h
theorem w_X7_keep_l21 {G : zG} {X : zX} (C : zC G X cX7_keep RX7 1 3) (N : Nat) (Q : Int32 → zMem → Prop) (R : zRI G X cX7_keep Q) (x1 : Int32) : ∀ (n : Nat) (x2 : Int32) (M : zMem), f_X7_keep_l21 N x1 Q n x2 M → zV G X M [(0, zR G 0), (1, .int x1), (2, .int x2)] [] 21 := by
  intro n
  induction n with
  | zero => intro x2 M h; exact h.elim
  | succ n ih =>
    intro x2 M h
    exact w_X7_keep_b21 C N Q R x1  _ ih x2 M h
set_option maxHeartbeats 4000000 in
set_option maxRecDepth 100000 in
theorem c_X7_keep (l : Launch) (G : zG) (N : Nat) (x1 : Int32) (M : zMem) (Q : Int32 → zMem → Prop) (h : f_X7_keep N x1 M Q) : zMI l G yX7_keep cX7_keep 3 .int 1 [zR G 0, .int x1] M Q := by
  refine zEI (by decide) (Nat.le_of_ble_eq_true rfl) (lv := [(0, zR G 0), (1, .int x1)]) rfl (fun X C R => ?_)
  have C : zC G X cX7_keep RX7 1 3 := C
  unfold f_X7_keep at h
  refine zr_iload_n C 1 dX7_keep_0 rfl rfl ?_
  refine zcI (zrunS C (rest := []) (c_X7_isImage X.2.1 G N _ _ _ h) zk_X7_isImage zl_X7_221 (by decide) (by decide) rfl (Nat.le_of_ble_eq_true rfl) rfl dX7_keep_1) (fun r1 M2 h => ?_)
  refine zr_if_ne C 9 dX7_keep_4 (by decide) (fun c => ?_) (fun c => ?_)
  · have h := h.1 c
    refine zr_aload_n C 0 dX7_keep_9 rfl rfl ?_
    refine zg_X7_37 C zo_0 dX7_keep_10 ?_
    refine zg_X7_224 C zo_32 dX7_keep_13 ?_
    refine zr_iload_n C 1 dX7_keep_16 rfl rfl ?_
    refine zr_iconst C (v := 1) dX7_keep_17 (by decide) ?_
    refine zr_zast C za_33 h.1 dX7_keep_18 ?_
    have h := h.2
    refine zr_letM (fun M3 hM3 => ?_)
    have h := h M3 hM3
    refine zr_iconst C (v := 0) dX7_keep_19 (by decide) ?_
    refine zr_istore_n C [1, 2, 0] dX7_keep_20 rfl (by decide) rfl (lv' := [(0, zR G 0), (1, .int x1), (2, .int (0 : Int32))]) ?_
    exact w_X7_keep_l21 C N Q R _ N _ _ h
  · have h := h.2 c
    refine zr_iconst C (v := -1) dX7_keep_7 (by decide) ?_
    exact R _ _ _ _ h dX7_keep_8
/-! X7_back -/
set_option maxHeartbeats 4000000 in
set_option maxRecDepth 100000 in
theorem w_X7_back_b26 {G : zG} {X : zX} (C : zC G X cX7_back RX7 4 3) (N : Nat) (Q : Int32 → zMem → Prop) (R : zRI G X cX7_back Q) (x1 : Int32) (k26 : Int32 → zMem → Prop) (hk26 : ∀ (z2 : Int32) (M : zMem), k26 z2 M → zV G X M [(0, zR G 0), (1, .int x1), (2, .int z2)] [] 26) (x2 : Int32) (M : zMem) (h : f_X7_back_b26 N k26 x1 x2 M Q) : zV G X M [(0, zR G 0), (1, .int x1), (2, .int x2)] [] 26 := by
  unfold f_X7_back_b26 at h
  refine zr_iload_n C 2 dX7_back_26 rfl rfl ?_
  refine zr_aload_n C 0 dX7_back_27 rfl rfl ?_
  refine zg_X7_23 C zo_0 dX7_back_28 ?_
  refine zr_icmp_ge C 61 dX7_back_31 (by decide) (fun c => ?_) (fun c => ?_)
  · have h := h.1 c
    refine zr_aload_n C 0 dX7_back_61 rfl rfl ?_
    refine zg_X7_30 C zo_0 dX7_back_62 ?_
    refine zr_iconst C (v := 0) dX7_back_65 (by decide) ?_
    refine zp_X7_80 C zo_29 dX7_back_66 ?_
    refine zr_letM (fun M3 hM3 => ?_)
    have h := h M3 hM3
    refine zr_aload_n C 0 dX7_back_69 rfl rfl ?_
    refine zg_X7_51 C zo_0 dX7_back_70 ?_
    refine zcU (zrunVN C (rest := []) (c_X3_outdate X.2.1 G N  _ _ h) zk_X3_outdate znl_X7_85 (zRc_3 zo_38) (by decide) (by decide) rfl (Nat.le_of_ble_eq_true rfl) rfl dX7_back_73) (fun M5 h => ?_)
    refine zr_aload_n C 0 dX7_back_76 rfl rfl ?_
    refine zg_X7_23 C zo_0 dX7_back_77 ?_
    exact R _ _ _ _ h dX7_back_80
  · have h := h.2 c
    refine zr_aload_n C 0 dX7_back_34 rfl rfl ?_
    refine zg_X7_18 C zo_0 dX7_back_35 ?_
    refine zr_iload_n C 2 dX7_back_38 rfl rfl ?_
    have hi6 := h.1
    have h := h.2
    refine zr_aald C hi6 dX7_back_39 ?_
    refine zr_aload_n C 0 dX7_back_40 rfl rfl ?_
    refine zg_X7_37 C zo_0 dX7_back_41 ?_
    refine zg_X7_228 C zo_32 dX7_back_44 ?_
    refine zr_iload_n C 1 dX7_back_47 rfl rfl ?_
    refine zr_iload_n C 2 dX7_back_48 rfl rfl ?_
    refine zcI (zrunSN C (rest := [zR G 34, zR G (5 + 6 * x2.toNatClampNeg)]) (c_X2_place X.2.1 G N _ _ _ _ h) zk_X2_place znl_X7_229 (by decide) (by decide) rfl (Nat.le_of_ble_eq_true rfl) rfl dX7_back_49) (fun r7 M8 h => ?_)
    refine zcU (zrunVN C (rest := []) (c_X0_takes X.2.1 G N _ (zkdAi hi6) _ za_34.1 _ _ _ h) zk_X0_takes znl_X7_76 (zRc_0 (zkdAi hi6)) (by decide) (by decide) rfl (Nat.le_of_ble_eq_true rfl) rfl dX7_back_52) (fun M10 h => ?_)
    obtain ⟨v11, hv11⟩ : ∃ y : Int32, y = x2 + (1 : Int32) := ⟨_, rfl⟩
    have h := h v11 hv11
    refine zr_iinc C 2 [1, 2, 0] dX7_back_55 rfl (by rw [hv11]; rfl) (by decide) rfl (lv' := [(0, zR G 0), (1, .int x1), (2, .int v11)]) ?_
    refine zr_goto C 26 dX7_back_58 (by decide) ?_
    exact hk26 _ _ h
theorem w_X7_back_l26 {G : zG} {X : zX} (C : zC G X cX7_back RX7 4 3) (N : Nat) (Q : Int32 → zMem → Prop) (R : zRI G X cX7_back Q) (x1 : Int32) : ∀ (n : Nat) (x2 : Int32) (M : zMem), f_X7_back_l26 N x1 Q n x2 M → zV G X M [(0, zR G 0), (1, .int x1), (2, .int x2)] [] 26 := by
  intro n
  induction n with
  | zero => intro x2 M h; exact h.elim
  | succ n ih =>
    intro x2 M h
    exact w_X7_back_b26 C N Q R x1  _ ih x2 M h
set_option maxHeartbeats 4000000 in
set_option maxRecDepth 100000 in
theorem c_X7_back (l : Launch) (G : zG) (N : Nat) (x1 : Int32) (M : zMem) (Q : Int32 → zMem → Prop) (h : f_X7_back N x1 M Q) : zMI l G yX7_back cX7_back 3 .int 4 [zR G 0, .int x1] M Q := by
  refine zEI (by decide) (Nat.le_of_ble_eq_true rfl) (lv := [(0, zR G 0), (1, .int x1)]) rfl (fun X C R => ?_)
  have C : zC G X cX7_back RX7 4 3 := C
  unfold f_X7_back at h
  refine zr_iload_n C 1 dX7_back_0 rfl rfl ?_
  refine zcI (zrunS C (rest := []) (c_X7_isImage X.2.1 G N _ _ _ h) zk_X7_isImage zl_X7_221 (by decide) (by decide) rfl (Nat.le_of_ble_eq_true rfl) rfl dX7_back_1) (fun r1 M2 h => ?_)
  refine zr_if_ne C 9 dX7_back_4 (by decide) (fun c => ?_) (fun c => ?_)
  · have h := h.1 c
    refine zr_aload_n C 0 dX7_back_9 rfl rfl ?_
    refine zg_X7_37 C zo_0 dX7_back_10 ?_
    refine zg_X7_224 C zo_32 dX7_back_13 ?_
    refine zr_iload_n C 1 dX7_back_16 rfl rfl ?_
    refine zr_zald C za_33 h.1 dX7_back_17 ?_
    have h := h.2
    refine zr_if_ne C 24 dX7_back_18 (by decide) (fun c => ?_) (fun c => ?_)
    · have h := h.1 c
      refine zr_iconst C (v := 0) dX7_back_24 (by decide) ?_
      refine zr_istore_n C [1, 2, 0] dX7_back_25 rfl (by decide) rfl (lv' := [(0, zR G 0), (1, .int x1), (2, .int (0 : Int32))]) ?_
      exact w_X7_back_l26 C N Q R _ N _ _ h
    · have h := h.2 c
      refine zr_bipush C (v := -2) dX7_back_21 (by decide) ?_
      exact R _ _ _ _ h dX7_back_23
  · have h := h.2 c
    refine zr_iconst C (v := -1) dX7_back_7 (by decide) ?_
    exact R _ _ _ _ h dX7_back_8
/-! X7_count -/
set_option maxHeartbeats 4000000 in
set_option maxRecDepth 100000 in
theorem c_X7_count (l : Launch) (G : zG) (N : Nat) (x1 : Int32) (M : zMem) (Q : Int32 → zMem → Prop) (h : f_X7_count N x1 M Q) : zMI l G yX7_count cX7_count 2 .int 0 [zR G 0, .int x1] M Q := by
  refine zEI (by decide) (Nat.le_of_ble_eq_true rfl) (lv := [(0, zR G 0), (1, .int x1)]) rfl (fun X C R => ?_)
  have C : zC G X cX7_count RX7 0 2 := C
  unfold f_X7_count at h
  refine zr_iload_n C 1 dX7_count_0 rfl rfl ?_
  rcases zsw_cases x1 3 (by decide) with c | ⟨j, cj, c⟩
  · have h := h.2.2.2.2 c
    refine zr_tableOut C 61 dX7_count_1 c (by decide) ?_
    refine zr_iconst C (v := -1) dX7_count_61 (by decide) ?_
    exact R _ _ _ _ h dX7_count_62
  · match j, cj, c with
    | 0, _, c =>
      have c : x1 = (0 : Int32) := c
      have h := h.1 c
      refine zr_tableIn C 32 dX7_count_1 (off := 31) (by rw [c] <;> decide) (by rw [c] <;> decide) (by rw [c] <;> decide) (by decide) ?_
      refine zr_aload_n C 0 dX7_count_32 rfl rfl ?_
      refine zg_X7_23 C zo_0 dX7_count_33 ?_
      exact R _ _ _ _ h dX7_count_36
    | 1, _, c =>
      have c : x1 = (1 : Int32) := c
      have h := h.2.1 c
      refine zr_tableIn C 37 dX7_count_1 (off := 36) (by rw [c] <;> decide) (by rw [c] <;> decide) (by rw [c] <;> decide) (by decide) ?_
      refine zr_aload_n C 0 dX7_count_37 rfl rfl ?_
      refine zg_X7_44 C zo_0 dX7_count_38 ?_
      refine zg_X7_81 C zo_35 dX7_count_41 ?_
      exact R _ _ _ _ h dX7_count_44
    | 2, _, c =>
      have c : x1 = (2 : Int32) := c
      have h := h.2.2.1 c
      refine zr_tableIn C 45 dX7_count_1 (off := 44) (by rw [c] <;> decide) (by rw [c] <;> decide) (by rw [c] <;> decide) (by decide) ?_
      refine zr_aload_n C 0 dX7_count_45 rfl rfl ?_
      refine zg_X7_10 C zo_0 dX7_count_46 ?_
      refine zg_X7_55 C zo_1 dX7_count_49 ?_
      exact R _ _ _ _ h dX7_count_52
    | 3, _, c =>
      have c : x1 = (3 : Int32) := c
      have h := h.2.2.2.1 c
      refine zr_tableIn C 53 dX7_count_1 (off := 52) (by rw [c] <;> decide) (by rw [c] <;> decide) (by rw [c] <;> decide) (by decide) ?_
      refine zr_aload_n C 0 dX7_count_53 rfl rfl ?_
      refine zg_X7_30 C zo_0 dX7_count_54 ?_
      refine zg_X7_80 C zo_29 dX7_count_57 ?_
      exact R _ _ _ _ h dX7_count_60
    | k + 4, cj, _ => exact absurd cj (by omega)
/-! X8_in -/
set_option maxHeartbeats 4000000 in
set_option maxRecDepth 100000 in
theorem c_X8_in (l : Launch) (G : zG) (N : Nat) (x0 : Int32) (x1 : Int32) (x2 : Int32) (M : zMem) (Q : Int32 → zMem → Prop) (h : f_X8_in N x0 x1 x2 M Q) : zMI l G yX8_in cX8_in 3 .boolean 0 [.int x0, .int x1, .int x2] M Q := by
  refine zEZ (by decide) (Nat.le_of_ble_eq_true rfl) (lv := [(0, .int x0), (1, .int x1), (2, .int x2)]) rfl (fun X C R => ?_)
  have C : zC G X cX8_in RX8 0 3 := C
  unfold f_X8_in at h
  refine zr_iload_n C 0 dX8_in_0 rfl rfl ?_
  refine zr_iload_n C 1 dX8_in_1 rfl rfl ?_
  refine zr_icmp_lt C 14 dX8_in_2 (by decide) (fun c => ?_) (fun c => ?_)
  · have h := h.1 c
    refine zr_iconst C (v := 0) dX8_in_14 (by decide) ?_
    exact R _ _ _ _ zb_0.1 h dX8_in_15
  · have h := h.2 c
    refine zr_iload_n C 0 dX8_in_5 rfl rfl ?_
    refine zr_iload_n C 2 dX8_in_6 rfl rfl ?_
    refine zr_icmp_gt C 14 dX8_in_7 (by decide) (fun c => ?_) (fun c => ?_)
    · have h := h.1 c
      refine zr_iconst C (v := 0) dX8_in_14 (by decide) ?_
      exact R _ _ _ _ zb_0.1 h dX8_in_15
    · have h := h.2 c
      refine zr_iconst C (v := 1) dX8_in_10 (by decide) ?_
      refine zr_goto C 15 dX8_in_11 (by decide) ?_
      exact R _ _ _ _ zb_1.1 h dX8_in_15
/-! X8_isArc -/
set_option maxHeartbeats 4000000 in
set_option maxRecDepth 100000 in
theorem c_X8_isArc (l : Launch) (G : zG) (N : Nat) (x1 : Int32) (M : zMem) (Q : Int32 → zMem → Prop) (h : f_X8_isArc N x1 M Q) : zMI l G yX8_isArc cX8_isArc 2 .boolean 1 [zR G 47, .int x1] M Q := by
  refine zEZ (by decide) (Nat.le_of_ble_eq_true rfl) (lv := [(0, zR G 47), (1, .int x1)]) rfl (fun X C R => ?_)
  have C : zC G X cX8_isArc RX8 1 2 := C
  unfold f_X8_isArc at h
  refine zr_iload_n C 1 dX8_isArc_0 rfl rfl ?_
  refine zr_iconst C (v := 0) dX8_isArc_1 (by decide) ?_
  refine zr_aload_n C 0 dX8_isArc_2 rfl rfl ?_
  refine zg_X8_56 C zo_47 dX8_isArc_3 ?_
  refine zr_iconst C (v := 1) dX8_isArc_6 (by decide) ?_
  refine zr_isub C dX8_isArc_7 ?_
  refine zcI (zrunS C (rest := []) (c_X8_in X.2.1 G N _ _ _ _ _ h) zk_X8_in zl_X8_63 (by decide) (by decide) rfl (Nat.le_of_ble_eq_true rfl) rfl dX8_isArc_8) (fun r1 M2 h => ?_)
  exact R _ _ _ _ h.1.1 h.2 dX8_isArc_11
/-! X8_isNode -/
set_option maxHeartbeats 4000000 in
set_option maxRecDepth 100000 in
theorem c_X8_isNode (l : Launch) (G : zG) (N : Nat) (x0 : Int32) (M : zMem) (Q : Int32 → zMem → Prop) (h : f_X8_isNode N x0 M Q) : zMI l G yX8_isNode cX8_isNode 1 .boolean 1 [.int x0] M Q := by
  refine zEZ (by decide) (Nat.le_of_ble_eq_true rfl) (lv := [(0, .int x0)]) rfl (fun X C R => ?_)
  have C : zC G X cX8_isNode RX8 1 1 := C
  unfold f_X8_isNode at h
  refine zr_iload_n C 0 dX8_isNode_0 rfl rfl ?_
  refine zr_iconst C (v := 1) dX8_isNode_1 (by decide) ?_
  refine zr_bipush C (v := 63) dX8_isNode_2 (by decide) ?_
  refine zcI (zrunS C (rest := []) (c_X8_in X.2.1 G N _ _ _ _ _ h) zk_X8_in zl_X8_63 (by decide) (by decide) rfl (Nat.le_of_ble_eq_true rfl) rfl dX8_isNode_4) (fun r1 M2 h => ?_)
  exact R _ _ _ _ h.1.1 h.2 dX8_isNode_7
/-! X8_type -/
set_option maxHeartbeats 4000000 in
set_option maxRecDepth 100000 in
theorem c_X8_type (l : Launch) (G : zG) (N : Nat) (x1 : Int32) (M : zMem) (Q : Int32 → zMem → Prop) (h : f_X8_type N x1 M Q) : zMI l G yX8_type cX8_type 2 .int 1 [zR G 47, .int x1] M Q := by
  refine zEI (by decide) (Nat.le_of_ble_eq_true rfl) (lv := [(0, zR G 47), (1, .int x1)]) rfl (fun X C R => ?_)
  have C : zC G X cX8_type RX8 1 2 := C
  unfold f_X8_type at h
  refine zr_aload_n C 0 dX8_type_0 rfl rfl ?_
  refine zr_iconst C (v := 0) dX8_type_1 (by decide) ?_
  refine zp_X8_60 C zo_47 dX8_type_2 ?_
  refine zr_letM (fun M1 hM1 => ?_)
  have h := h M1 hM1
  refine zr_iload_n C 1 dX8_type_5 rfl rfl ?_
  refine zr_iconst C (v := 0) dX8_type_6 (by decide) ?_
  refine zr_sipush C (v := 255) dX8_type_7 (by decide) ?_
  refine zcI (zrunS C (rest := []) (c_X8_in X.2.1 G N _ _ _ _ _ h) zk_X8_in zl_X8_63 (by decide) (by decide) rfl (Nat.le_of_ble_eq_true rfl) rfl dX8_type_10) (fun r2 M3 h => ?_)
  refine zr_if_ne C 18 dX8_type_13 (by decide) (fun c => ?_) (fun c => ?_)
  · have h := h.1 c
    refine zr_aload_n C 0 dX8_type_18 rfl rfl ?_
    refine zg_X8_67 C zo_47 dX8_type_19 ?_
    refine zr_sipush C (v := 130) dX8_type_22 (by decide) ?_
    refine zr_icmp_ne C 31 dX8_type_25 (by decide) (fun c => ?_) (fun c => ?_)
    · have h := h.1 c
      refine zr_aload_n C 0 dX8_type_31 rfl rfl ?_
      refine zg_X8_32 C zo_47 dX8_type_32 ?_
      refine zr_aload_n C 0 dX8_type_35 rfl rfl ?_
      refine zg_X8_67 C zo_47 dX8_type_36 ?_
      refine zr_iload_n C 1 dX8_type_39 rfl rfl ?_
      refine zr_iast C za_55 h.1 dX8_type_40 ?_
      have h := h.2
      refine zr_letM (fun M4 hM4 => ?_)
      have h := h M4 hM4
      refine zr_aload_n C 0 dX8_type_41 rfl rfl ?_
      refine zr_dup C rfl dX8_type_42 ?_
      refine zg_X8_67 C zo_47 dX8_type_43 ?_
      refine zr_iconst C (v := 1) dX8_type_46 (by decide) ?_
      refine zr_iadd C dX8_type_47 ?_
      refine zp_X8_67 C zo_47 dX8_type_48 ?_
      refine zr_letM (fun M5 hM5 => ?_)
      have h := h M5 hM5
      refine zr_aload_n C 0 dX8_type_51 rfl rfl ?_
      refine zg_X8_67 C zo_47 dX8_type_52 ?_
      exact R _ _ _ _ h dX8_type_55
    · have h := h.2 c
      refine zr_bipush C (v := -3) dX8_type_28 (by decide) ?_
      exact R _ _ _ _ h dX8_type_30
  · have h := h.2 c
    refine zr_iconst C (v := -1) dX8_type_16 (by decide) ?_
    exact R _ _ _ _ h dX8_type_17
/-! X8_clear -/
set_option maxHeartbeats 4000000 in
set_option maxRecDepth 100000 in
theorem c_X8_clear (l : Launch) (G : zG) (N : Nat)  (M : zMem) (Q : Int32 → zMem → Prop) (h : f_X8_clear N  M Q) : zMI l G yX8_clear cX8_clear 2 .int 0 [zR G 47] M Q := by
  refine zEI (by decide) (Nat.le_of_ble_eq_true rfl) (lv := [(0, zR G 47)]) rfl (fun X C R => ?_)
  have C : zC G X cX8_clear RX8 0 2 := C
  unfold f_X8_clear at h
  refine zr_aload_n C 0 dX8_clear_0 rfl rfl ?_
  refine zr_iconst C (v := 0) dX8_clear_1 (by decide) ?_
  refine zp_X8_60 C zo_47 dX8_clear_2 ?_
  refine zr_letM (fun M1 hM1 => ?_)
  have h := h M1 hM1
  refine zr_aload_n C 0 dX8_clear_5 rfl rfl ?_
  refine zg_X8_67 C zo_47 dX8_clear_6 ?_
  refine zr_letI (fun v2 hv2 => ?_)
  have h := h v2 hv2
  refine zr_istore_n C [1, 0] dX8_clear_9 rfl (by decide) rfl (lv' := [(0, zR G 47), (1, .int v2)]) ?_
  refine zr_aload_n C 0 dX8_clear_10 rfl rfl ?_
  refine zr_iconst C (v := 0) dX8_clear_11 (by decide) ?_
  refine zp_X8_67 C zo_47 dX8_clear_12 ?_
  refine zr_letM (fun M3 hM3 => ?_)
  have h := h M3 hM3
  refine zr_iload_n C 1 dX8_clear_15 rfl rfl ?_
  exact R _ _ _ _ h dX8_clear_16
/-! X8_isFigure -/
set_option maxHeartbeats 4000000 in
set_option maxRecDepth 100000 in
theorem c_X8_isFigure (l : Launch) (G : zG) (N : Nat) (x1 : Int32) (M : zMem) (Q : Int32 → zMem → Prop) (h : f_X8_isFigure N x1 M Q) : zMI l G yX8_isFigure cX8_isFigure 2 .boolean 1 [zR G 47, .int x1] M Q := by
  refine zEZ (by decide) (Nat.le_of_ble_eq_true rfl) (lv := [(0, zR G 47), (1, .int x1)]) rfl (fun X C R => ?_)
  have C : zC G X cX8_isFigure RX8 1 2 := C
  unfold f_X8_isFigure at h
  refine zr_iload_n C 1 dX8_isFigure_0 rfl rfl ?_
  refine zr_aload_n C 0 dX8_isFigure_1 rfl rfl ?_
  refine zg_X8_67 C zo_47 dX8_isFigure_2 ?_
  refine zr_icmp_ge C 28 dX8_isFigure_5 (by decide) (fun c => ?_) (fun c => ?_)
  · have h := h.1 c
    refine zr_iconst C (v := 0) dX8_isFigure_28 (by decide) ?_
    exact R _ _ _ _ zb_0.1 h dX8_isFigure_29
  · have h := h.2 c
    refine zr_aload_n C 0 dX8_isFigure_8 rfl rfl ?_
    refine zg_X8_32 C zo_47 dX8_isFigure_9 ?_
    refine zr_iload_n C 1 dX8_isFigure_12 rfl rfl ?_
    refine zr_iald C za_55 h.1 dX8_isFigure_13 ?_
    have h := h.2
    refine zr_bipush C (v := 48) dX8_isFigure_14 (by decide) ?_
    refine zr_bipush C (v := 57) dX8_isFigure_16 (by decide) ?_
    refine zcI (zrunS C (rest := []) (c_X8_in X.2.1 G N _ _ _ _ _ h) zk_X8_in zl_X8_63 (by decide) (by decide) rfl (Nat.le_of_ble_eq_true rfl) rfl dX8_isFigure_18) (fun r1 M2 h => ?_)
    refine zr_if_eq C 28 dX8_isFigure_21 (by decide) (fun c => ?_) (fun c => ?_)
    · have h := h.1 c
      refine zr_iconst C (v := 0) dX8_isFigure_28 (by decide) ?_
      exact R _ _ _ _ zb_0.1 h dX8_isFigure_29
    · have h := h.2 c
      refine zr_iconst C (v := 1) dX8_isFigure_24 (by decide) ?_
      refine zr_goto C 29 dX8_isFigure_25 (by decide) ?_
      exact R _ _ _ _ zb_1.1 h dX8_isFigure_29
/-! X8_takes -/
set_option maxHeartbeats 4000000 in
set_option maxRecDepth 100000 in
theorem w_X8_takes_b171 {G : zG} {X : zX} (C : zC G X cX8_takes RX8 2 1) (N : Nat) (Q : zMem → Prop) (R : zRU G X cX8_takes Q) (s1 : Int32) (M : zMem) (h : f_X8_takes_b171 N s1 M Q) : zV G X M [] [.int s1, zR G 47] 171 := by
  unfold f_X8_takes_b171 at h
  refine zp_X8_76 C zo_47 dX8_takes_171 ?_
  refine zr_letM (fun M7 hM7 => ?_)
  have h := h M7 hM7
  exact R _ _ _ h dX8_takes_174
set_option maxHeartbeats 4000000 in
set_option maxRecDepth 100000 in
theorem w_X8_takes_b111 {G : zG} {X : zX} (C : zC G X cX8_takes RX8 2 1) (N : Nat) (Q : zMem → Prop) (R : zRU G X cX8_takes Q) (k111 : zMem → Prop) (hk111 : ∀  (M : zMem), k111  M → zV G X M [(0, zR G 47)] [] 111) (M : zMem) (h : f_X8_takes_b111 N k111 M Q) : zV G X M [(0, zR G 47)] [] 111 := by
  unfold f_X8_takes_b111 at h
  refine zr_aload_n C 0 dX8_takes_111 rfl rfl ?_
  refine zr_aload_n C 0 dX8_takes_112 rfl rfl ?_
  refine zg_X8_70 C zo_47 dX8_takes_113 ?_
  refine zcI (zrunV C (rest := []) (c_X8_isFigure X.2.1 G N _ _ _ h) zk_X8_isFigure zl_X8_79 (zRc_7 zo_47) (by decide) (by decide) rfl (Nat.le_of_ble_eq_true rfl) rfl dX8_takes_116) (fun r5 M6 h => ?_)
  refine zr_if_eq C 135 dX8_takes_119 (by decide) (fun c => ?_) (fun c => ?_)
  · have h := h.1 c
    refine zr_aload_n C 0 dX8_takes_135 rfl rfl ?_
    refine zr_aload_n C 0 dX8_takes_136 rfl rfl ?_
    refine zg_X8_70 C zo_47 dX8_takes_137 ?_
    refine zr_aload_n C 0 dX8_takes_140 rfl rfl ?_
    refine zg_X8_73 C zo_47 dX8_takes_141 ?_
    refine zr_iconst C (v := 1) dX8_takes_144 (by decide) ?_
    refine zr_iadd C dX8_takes_145 ?_
    refine zr_icmp_le C 155 dX8_takes_146 (by decide) (fun c => ?_) (fun c => ?_)
    · have h := h.1 c
      refine zr_sipush C (v := 1000) dX8_takes_155 (by decide) ?_
      refine zr_aload_n C 0 dX8_takes_158 rfl rfl ?_
      refine zg_X8_32 C zo_47 dX8_takes_159 ?_
      refine zr_aload_n C 0 dX8_takes_162 rfl rfl ?_
      refine zg_X8_73 C zo_47 dX8_takes_163 ?_
      refine zr_iald C za_55 h.1 dX8_takes_166 ?_
      have h := h.2
      refine zr_iadd C dX8_takes_167 ?_
      refine zr_bipush C (v := 48) dX8_takes_168 (by decide) ?_
      refine zr_isub C dX8_takes_170 ?_
      refine zr_sub [] rfl (lv' := []) ?_
      exact w_X8_takes_b171 C N Q R _ _ h
    · have h := h.2 c
      refine zr_sipush C (v := 2000) dX8_takes_149 (by decide) ?_
      refine zr_goto C 171 dX8_takes_152 (by decide) ?_
      refine zr_sub [] rfl (lv' := []) ?_
      exact w_X8_takes_b171 C N Q R _ _ h
  · have h := h.2 c
    refine zr_aload_n C 0 dX8_takes_122 rfl rfl ?_
    refine zr_dup C rfl dX8_takes_123 ?_
    refine zg_X8_70 C zo_47 dX8_takes_124 ?_
    refine zr_iconst C (v := 1) dX8_takes_127 (by decide) ?_
    refine zr_iadd C dX8_takes_128 ?_
    refine zp_X8_70 C zo_47 dX8_takes_129 ?_
    refine zr_letM (fun M8 hM8 => ?_)
    have h := h M8 hM8
    refine zr_goto C 111 dX8_takes_132 (by decide) ?_
    exact hk111  _ h
theorem w_X8_takes_l111 {G : zG} {X : zX} (C : zC G X cX8_takes RX8 2 1) (N : Nat) (Q : zMem → Prop) (R : zRU G X cX8_takes Q)  : ∀ (n : Nat)  (M : zMem), f_X8_takes_l111 N  Q n  M → zV G X M [(0, zR G 47)] [] 111 := by
  intro n
  induction n with
  | zero => intro  M h; exact h.elim
  | succ n ih =>
    intro  M h
    exact w_X8_takes_b111 C N Q R   _ ih  M h
set_option maxHeartbeats 4000000 in
set_option maxRecDepth 100000 in
theorem w_X8_takes_b106 {G : zG} {X : zX} (C : zC G X cX8_takes RX8 2 1) (N : Nat) (Q : zMem → Prop) (R : zRU G X cX8_takes Q) (s1 : Int32) (s2 : Int32) (M : zMem) (h : f_X8_takes_b106 N s1 s2 M Q) : zV G X M [] [.int s2, .int s1, zR G 47] 106 := by
  unfold f_X8_takes_b106 at h
  refine zr_iadd C dX8_takes_106 ?_
  refine zp_X8_70 C zo_47 dX8_takes_107 ?_
  refine zr_letM (fun M9 hM9 => ?_)
  have h := h M9 hM9
  exact R _ _ _ h dX8_takes_110
set_option maxHeartbeats 4000000 in
set_option maxRecDepth 100000 in
theorem w_X8_takes_b71 {G : zG} {X : zX} (C : zC G X cX8_takes RX8 2 1) (N : Nat) (Q : zMem → Prop) (R : zRU G X cX8_takes Q) (s1 : Int32) (M : zMem) (h : f_X8_takes_b71 N s1 M Q) : zV G X M [(0, zR G 47)] [.int s1, zR G 47] 71 := by
  unfold f_X8_takes_b71 at h
  refine zp_X8_76 C zo_47 dX8_takes_71 ?_
  refine zr_letM (fun M2 hM2 => ?_)
  have h := h M2 hM2
  refine zr_aload_n C 0 dX8_takes_74 rfl rfl ?_
  refine zr_aload_n C 0 dX8_takes_75 rfl rfl ?_
  refine zg_X8_70 C zo_47 dX8_takes_76 ?_
  refine zcI (zrunV C (rest := []) (c_X8_isFigure X.2.1 G N _ _ _ h) zk_X8_isFigure zl_X8_79 (zRc_7 zo_47) (by decide) (by decide) rfl (Nat.le_of_ble_eq_true rfl) rfl dX8_takes_79) (fun r3 M4 h => ?_)
  refine zr_if_ne C 111 dX8_takes_82 (by decide) (fun c => ?_) (fun c => ?_)
  · have h := h.1 c
    exact w_X8_takes_l111 C N Q R  N  _ h
  · have h := h.2 c
    refine zr_aload_n C 0 dX8_takes_85 rfl rfl ?_
    refine zr_dup C rfl dX8_takes_86 ?_
    refine zg_X8_70 C zo_47 dX8_takes_87 ?_
    refine zr_aload_n C 0 dX8_takes_90 rfl rfl ?_
    refine zg_X8_70 C zo_47 dX8_takes_91 ?_
    refine zr_aload_n C 0 dX8_takes_94 rfl rfl ?_
    refine zg_X8_67 C zo_47 dX8_takes_95 ?_
    refine zr_icmp_ge C 105 dX8_takes_98 (by decide) (fun c => ?_) (fun c => ?_)
    · have h := h.1 c
      refine zr_iconst C (v := 0) dX8_takes_105 (by decide) ?_
      refine zr_sub [] rfl (lv' := []) ?_
      exact w_X8_takes_b106 C N Q R _ _ _ h
    · have h := h.2 c
      refine zr_iconst C (v := 1) dX8_takes_101 (by decide) ?_
      refine zr_goto C 106 dX8_takes_102 (by decide) ?_
      refine zr_sub [] rfl (lv' := []) ?_
      exact w_X8_takes_b106 C N Q R _ _ _ h
set_option maxHeartbeats 4000000 in
set_option maxRecDepth 100000 in
theorem w_X8_takes_b38 {G : zG} {X : zX} (C : zC G X cX8_takes RX8 2 1) (N : Nat) (Q : zMem → Prop) (R : zRU G X cX8_takes Q)  (M : zMem) (h : f_X8_takes_b38 N  M Q) : zV G X M [(0, zR G 47)] [] 38 := by
  unfold f_X8_takes_b38 at h
  refine zr_aload_n C 0 dX8_takes_38 rfl rfl ?_
  refine zr_aload_n C 0 dX8_takes_39 rfl rfl ?_
  refine zg_X8_70 C zo_47 dX8_takes_40 ?_
  refine zp_X8_73 C zo_47 dX8_takes_43 ?_
  refine zr_letM (fun M1 hM1 => ?_)
  have h := h M1 hM1
  refine zr_aload_n C 0 dX8_takes_46 rfl rfl ?_
  refine zr_aload_n C 0 dX8_takes_47 rfl rfl ?_
  refine zg_X8_70 C zo_47 dX8_takes_48 ?_
  refine zr_aload_n C 0 dX8_takes_51 rfl rfl ?_
  refine zg_X8_67 C zo_47 dX8_takes_52 ?_
  refine zr_icmp_ge C 70 dX8_takes_55 (by decide) (fun c => ?_) (fun c => ?_)
  · have h := h.1 c
    refine zr_iconst C (v := -1) dX8_takes_70 (by decide) ?_
    exact w_X8_takes_b71 C N Q R _ _ h
  · have h := h.2 c
    refine zr_aload_n C 0 dX8_takes_58 rfl rfl ?_
    refine zg_X8_32 C zo_47 dX8_takes_59 ?_
    refine zr_aload_n C 0 dX8_takes_62 rfl rfl ?_
    refine zg_X8_70 C zo_47 dX8_takes_63 ?_
    refine zr_iald C za_55 h.1 dX8_takes_66 ?_
    have h := h.2
    refine zr_goto C 71 dX8_takes_67 (by decide) ?_
    exact w_X8_takes_b71 C N Q R _ _ h
set_option maxHeartbeats 4000000 in
set_option maxRecDepth 100000 in
theorem w_X8_takes_b0 {G : zG} {X : zX} (C : zC G X cX8_takes RX8 2 1) (N : Nat) (Q : zMem → Prop) (R : zRU G X cX8_takes Q) (k0 : zMem → Prop) (hk0 : ∀  (M : zMem), k0  M → zV G X M [(0, zR G 47)] [] 0) (M : zMem) (h : f_X8_takes_b0 N k0 M Q) : zV G X M [(0, zR G 47)] [] 0 := by
  unfold f_X8_takes_b0 at h
  refine zr_aload_n C 0 dX8_takes_0 rfl rfl ?_
  refine zg_X8_70 C zo_47 dX8_takes_1 ?_
  refine zr_aload_n C 0 dX8_takes_4 rfl rfl ?_
  refine zg_X8_67 C zo_47 dX8_takes_5 ?_
  refine zr_icmp_ge C 38 dX8_takes_8 (by decide) (fun c => ?_) (fun c => ?_)
  · have h := h.1 c
    exact w_X8_takes_b38 C N Q R  _ h
  · have h := h.2 c
    refine zr_aload_n C 0 dX8_takes_11 rfl rfl ?_
    refine zg_X8_32 C zo_47 dX8_takes_12 ?_
    refine zr_aload_n C 0 dX8_takes_15 rfl rfl ?_
    refine zg_X8_70 C zo_47 dX8_takes_16 ?_
    refine zr_iald C za_55 h.1 dX8_takes_19 ?_
    have h := h.2
    refine zr_bipush C (v := 32) dX8_takes_20 (by decide) ?_
    refine zr_icmp_ne C 38 dX8_takes_22 (by decide) (fun c => ?_) (fun c => ?_)
    · have h := h.1 c
      exact w_X8_takes_b38 C N Q R  _ h
    · have h := h.2 c
      refine zr_aload_n C 0 dX8_takes_25 rfl rfl ?_
      refine zr_dup C rfl dX8_takes_26 ?_
      refine zg_X8_70 C zo_47 dX8_takes_27 ?_
      refine zr_iconst C (v := 1) dX8_takes_30 (by decide) ?_
      refine zr_iadd C dX8_takes_31 ?_
      refine zp_X8_70 C zo_47 dX8_takes_32 ?_
      refine zr_letM (fun M10 hM10 => ?_)
      have h := h M10 hM10
      refine zr_goto C 0 dX8_takes_35 (by decide) ?_
      exact hk0  _ h
theorem w_X8_takes_l0 {G : zG} {X : zX} (C : zC G X cX8_takes RX8 2 1) (N : Nat) (Q : zMem → Prop) (R : zRU G X cX8_takes Q)  : ∀ (n : Nat)  (M : zMem), f_X8_takes_l0 N  Q n  M → zV G X M [(0, zR G 47)] [] 0 := by
  intro n
  induction n with
  | zero => intro  M h; exact h.elim
  | succ n ih =>
    intro  M h
    exact w_X8_takes_b0 C N Q R   _ ih  M h
set_option maxHeartbeats 4000000 in
set_option maxRecDepth 100000 in
theorem c_X8_takes (l : Launch) (G : zG) (N : Nat)  (M : zMem) (Q : zMem → Prop) (h : f_X8_takes N  M Q) : zMU l G yX8_takes cX8_takes 1 2 [zR G 47] M Q := by
  refine zEU (by decide) (Nat.le_of_ble_eq_true rfl) (lv := [(0, zR G 47)]) rfl (fun X C R => ?_)
  have C : zC G X cX8_takes RX8 2 1 := C
  unfold f_X8_takes at h
  exact w_X8_takes_l0 C N Q R  N  _ h
/-! X8_readsArc -/
set_option maxHeartbeats 4000000 in
set_option maxRecDepth 100000 in
theorem w_X8_readsArc_b99 {G : zG} {X : zX} (C : zC G X cX8_readsArc RX8 3 3) (N : Nat) (Q : Int32 → zMem → Prop) (R : zRZ G X cX8_readsArc Q) (x1 : Int32) (s1 : Int32) (s2 : Int32) (k12 : Int32 → zMem → Prop) (hk12 : ∀ (z1 : Int32) (M : zMem), k12 z1 M → zV G X M [(0, zR G 47), (1, .int z1)] [] 12) (M : zMem) (h : f_X8_readsArc_b99 N k12 x1 s1 s2 M Q) : zV G X M [(0, zR G 47), (1, .int x1)] [.int s2, .int s1, zR G 56] 99 := by
  unfold f_X8_readsArc_b99 at h
  refine zr_iast C za_56 h.1 dX8_readsArc_99 ?_
  have h := h.2
  refine zr_letM (fun M6 hM6 => ?_)
  have h := h M6 hM6
  obtain ⟨v7, hv7⟩ : ∃ y : Int32, y = x1 + (1 : Int32) := ⟨_, rfl⟩
  have h := h v7 hv7
  refine zr_iinc C 1 [1, 0] dX8_readsArc_100 rfl (by rw [hv7]; rfl) (by decide) rfl (lv' := [(0, zR G 47), (1, .int v7)]) ?_
  refine zr_goto C 12 dX8_readsArc_103 (by decide) ?_
  exact hk12 _ _ h
set_option maxHeartbeats 4000000 in
set_option maxRecDepth 100000 in
theorem w_X8_readsArc_b45 {G : zG} {X : zX} (C : zC G X cX8_readsArc RX8 3 3) (N : Nat) (Q : Int32 → zMem → Prop) (R : zRZ G X cX8_readsArc Q) (x1 : Int32) (x2 : Int32) (k12 : Int32 → zMem → Prop) (hk12 : ∀ (z1 : Int32) (M : zMem), k12 z1 M → zV G X M [(0, zR G 47), (1, .int z1)] [] 12) (M : zMem) (h : f_X8_readsArc_b45 N k12 x1 x2 M Q) : zV G X M [(0, zR G 47), (1, .int x1), (2, .int x2)] [] 45 := by
  unfold f_X8_readsArc_b45 at h
  refine zr_aload_n C 0 dX8_readsArc_45 rfl rfl ?_
  refine zg_X8_76 C zo_47 dX8_readsArc_46 ?_
  refine zr_sipush C (v := 1000) dX8_readsArc_49 (by decide) ?_
  refine zr_sipush C (v := 1009) dX8_readsArc_52 (by decide) ?_
  refine zcI (zrunS C (rest := []) (c_X8_in X.2.1 G N _ _ _ _ _ h) zk_X8_in zl_X8_63 (by decide) (by decide) rfl (Nat.le_of_ble_eq_true rfl) rfl dX8_readsArc_55) (fun r4 M5 h => ?_)
  refine zr_if_ne C 63 dX8_readsArc_58 (by decide) (fun c => ?_) (fun c => ?_)
  · have h := h.1 c
    refine zr_aload_n C 0 dX8_readsArc_63 rfl rfl ?_
    refine zg_X8_35 C zo_47 dX8_readsArc_64 ?_
    refine zr_bipush C (v := 8) dX8_readsArc_67 (by decide) ?_
    refine zr_aload_n C 0 dX8_readsArc_69 rfl rfl ?_
    refine zg_X8_83 C zo_47 dX8_readsArc_70 ?_
    refine zr_imul C dX8_readsArc_73 ?_
    refine zr_iload_n C 1 dX8_readsArc_74 rfl rfl ?_
    refine zr_iadd C dX8_readsArc_75 ?_
    refine zr_iload_n C 2 dX8_readsArc_76 rfl rfl ?_
    refine zr_if_eq C 91 dX8_readsArc_77 (by decide) (fun c => ?_) (fun c => ?_)
    · have h := h.1 c
      refine zr_aload_n C 0 dX8_readsArc_91 rfl rfl ?_
      refine zg_X8_76 C zo_47 dX8_readsArc_92 ?_
      refine zr_sipush C (v := 1000) dX8_readsArc_95 (by decide) ?_
      refine zr_isub C dX8_readsArc_98 ?_
      refine zr_sub [0, 1] rfl (lv' := [(0, zR G 47), (1, .int x1)]) ?_
      exact w_X8_readsArc_b99 C N Q R _ _ _ _ hk12 _ h
    · have h := h.2 c
      refine zr_sipush C (v := 1000) dX8_readsArc_80 (by decide) ?_
      refine zr_aload_n C 0 dX8_readsArc_83 rfl rfl ?_
      refine zg_X8_76 C zo_47 dX8_readsArc_84 ?_
      refine zr_isub C dX8_readsArc_87 ?_
      refine zr_goto C 99 dX8_readsArc_88 (by decide) ?_
      refine zr_sub [0, 1] rfl (lv' := [(0, zR G 47), (1, .int x1)]) ?_
      exact w_X8_readsArc_b99 C N Q R _ _ _ _ hk12 _ h
  · have h := h.2 c
    refine zr_iconst C (v := 0) dX8_readsArc_61 (by decide) ?_
    exact R _ _ _ _ zb_0.1 h dX8_readsArc_62
set_option maxHeartbeats 4000000 in
set_option maxRecDepth 100000 in
theorem w_X8_readsArc_b36 {G : zG} {X : zX} (C : zC G X cX8_readsArc RX8 3 3) (N : Nat) (Q : Int32 → zMem → Prop) (R : zRZ G X cX8_readsArc Q) (x1 : Int32) (s0 : Int32) (k12 : Int32 → zMem → Prop) (hk12 : ∀ (z1 : Int32) (M : zMem), k12 z1 M → zV G X M [(0, zR G 47), (1, .int z1)] [] 12) (M : zMem) (h : f_X8_readsArc_b36 N k12 x1 s0 M Q) : zV G X M [(0, zR G 47), (1, .int x1)] [.int s0] 36 := by
  unfold f_X8_readsArc_b36 at h
  refine zr_istore_n C [1, 2, 0] dX8_readsArc_36 rfl (by decide) rfl (lv' := [(0, zR G 47), (1, .int x1), (2, .int s0)]) ?_
  refine zr_iload_n C 2 dX8_readsArc_37 rfl rfl ?_
  refine zr_if_eq C 45 dX8_readsArc_38 (by decide) (fun c => ?_) (fun c => ?_)
  · have h := h.1 c
    exact w_X8_readsArc_b45 C N Q R _ _ _ hk12 _ h
  · have h := h.2 c
    refine zr_aload_n C 0 dX8_readsArc_41 rfl rfl ?_
    refine zcU (zrunV C (rest := []) (c_X8_takes X.2.1 G N  _ _ h) zk_X8_takes zl_X8_86 (zRc_7 zo_47) (by decide) (by decide) rfl (Nat.le_of_ble_eq_true rfl) rfl dX8_readsArc_42) (fun M9 h => ?_)
    exact w_X8_readsArc_b45 C N Q R _ _ _ hk12 _ h
set_option maxHeartbeats 4000000 in
set_option maxRecDepth 100000 in
theorem w_X8_readsArc_b12 {G : zG} {X : zX} (C : zC G X cX8_readsArc RX8 3 3) (N : Nat) (Q : Int32 → zMem → Prop) (R : zRZ G X cX8_readsArc Q) (k12 : Int32 → zMem → Prop) (hk12 : ∀ (z1 : Int32) (M : zMem), k12 z1 M → zV G X M [(0, zR G 47), (1, .int z1)] [] 12) (x1 : Int32) (M : zMem) (h : f_X8_readsArc_b12 N k12 x1 M Q) : zV G X M [(0, zR G 47), (1, .int x1)] [] 12 := by
  unfold f_X8_readsArc_b12 at h
  refine zr_iload_n C 1 dX8_readsArc_12 rfl rfl ?_
  refine zr_bipush C (v := 8) dX8_readsArc_13 (by decide) ?_
  refine zr_icmp_ge C 106 dX8_readsArc_15 (by decide) (fun c => ?_) (fun c => ?_)
  · have h := h.1 c
    refine zr_aload_n C 0 dX8_readsArc_106 rfl rfl ?_
    refine zr_dup C rfl dX8_readsArc_107 ?_
    refine zg_X8_83 C zo_47 dX8_readsArc_108 ?_
    refine zr_iconst C (v := 1) dX8_readsArc_111 (by decide) ?_
    refine zr_iadd C dX8_readsArc_112 ?_
    refine zp_X8_83 C zo_47 dX8_readsArc_113 ?_
    refine zr_letM (fun M1 hM1 => ?_)
    have h := h M1 hM1
    refine zr_iconst C (v := 1) dX8_readsArc_116 (by decide) ?_
    exact R _ _ _ _ zb_1.1 h dX8_readsArc_117
  · have h := h.2 c
    refine zr_aload_n C 0 dX8_readsArc_18 rfl rfl ?_
    refine zcU (zrunV C (rest := []) (c_X8_takes X.2.1 G N  _ _ h) zk_X8_takes zl_X8_86 (zRc_7 zo_47) (by decide) (by decide) rfl (Nat.le_of_ble_eq_true rfl) rfl dX8_readsArc_19) (fun M3 h => ?_)
    refine zr_aload_n C 0 dX8_readsArc_22 rfl rfl ?_
    refine zg_X8_76 C zo_47 dX8_readsArc_23 ?_
    refine zr_bipush C (v := 45) dX8_readsArc_26 (by decide) ?_
    refine zr_icmp_ne C 35 dX8_readsArc_28 (by decide) (fun c => ?_) (fun c => ?_)
    · have h := h.1 c
      refine zr_iconst C (v := 0) dX8_readsArc_35 (by decide) ?_
      exact w_X8_readsArc_b36 C N Q R _ _ _ hk12 _ h
    · have h := h.2 c
      refine zr_iconst C (v := 1) dX8_readsArc_31 (by decide) ?_
      refine zr_goto C 36 dX8_readsArc_32 (by decide) ?_
      exact w_X8_readsArc_b36 C N Q R _ _ _ hk12 _ h
theorem w_X8_readsArc_l12 {G : zG} {X : zX} (C : zC G X cX8_readsArc RX8 3 3) (N : Nat) (Q : Int32 → zMem → Prop) (R : zRZ G X cX8_readsArc Q)  : ∀ (n : Nat) (x1 : Int32) (M : zMem), f_X8_readsArc_l12 N  Q n x1 M → zV G X M [(0, zR G 47), (1, .int x1)] [] 12 := by
  intro n
  induction n with
  | zero => intro x1 M h; exact h.elim
  | succ n ih =>
    intro x1 M h
    exact w_X8_readsArc_b12 C N Q R   _ ih x1 M h
set_option maxHeartbeats 4000000 in
set_option maxRecDepth 100000 in
theorem c_X8_readsArc (l : Launch) (G : zG) (N : Nat)  (M : zMem) (Q : Int32 → zMem → Prop) (h : f_X8_readsArc N  M Q) : zMI l G yX8_readsArc cX8_readsArc 3 .boolean 3 [zR G 47] M Q := by
  refine zEZ (by decide) (Nat.le_of_ble_eq_true rfl) (lv := [(0, zR G 47)]) rfl (fun X C R => ?_)
  have C : zC G X cX8_readsArc RX8 3 3 := C
  unfold f_X8_readsArc at h
  refine zr_aload_n C 0 dX8_readsArc_0 rfl rfl ?_
  refine zg_X8_83 C zo_47 dX8_readsArc_1 ?_
  refine zr_iconst C (v := 4) dX8_readsArc_4 (by decide) ?_
  refine zr_icmp_ne C 10 dX8_readsArc_5 (by decide) (fun c => ?_) (fun c => ?_)
  · have h := h.1 c
    refine zr_iconst C (v := 0) dX8_readsArc_10 (by decide) ?_
    refine zr_istore_n C [1, 0] dX8_readsArc_11 rfl (by decide) rfl (lv' := [(0, zR G 47), (1, .int (0 : Int32))]) ?_
    exact w_X8_readsArc_l12 C N Q R  N _ _ h
  · have h := h.2 c
    refine zr_iconst C (v := 0) dX8_readsArc_8 (by decide) ?_
    exact R _ _ _ _ zb_0.1 h dX8_readsArc_9
/-! X8_arcs -/
set_option maxHeartbeats 4000000 in
set_option maxRecDepth 100000 in
theorem w_X8_arcs_b87 {G : zG} {X : zX} (C : zC G X cX8_arcs RX8 4 2) (N : Nat) (Q : Int32 → zMem → Prop) (R : zRI G X cX8_arcs Q) (k87 : Int32 → zMem → Prop) (hk87 : ∀ (z1 : Int32) (M : zMem), k87 z1 M → zV G X M [(0, zR G 47), (1, .int z1)] [] 87) (x1 : Int32) (M : zMem) (h : f_X8_arcs_b87 N k87 x1 M Q) : zV G X M [(0, zR G 47), (1, .int x1)] [] 87 := by
  unfold f_X8_arcs_b87 at h
  refine zr_iload_n C 1 dX8_arcs_87 rfl rfl ?_
  refine zr_bipush C (v := 32) dX8_arcs_88 (by decide) ?_
  refine zr_icmp_ge C 111 dX8_arcs_90 (by decide) (fun c => ?_) (fun c => ?_)
  · have h := h.1 c
    refine zr_aload_n C 0 dX8_arcs_111 rfl rfl ?_
    refine zr_aload_n C 0 dX8_arcs_112 rfl rfl ?_
    refine zg_X8_83 C zo_47 dX8_arcs_113 ?_
    refine zp_X8_56 C zo_47 dX8_arcs_116 ?_
    refine zr_letM (fun M6 hM6 => ?_)
    have h := h M6 hM6
    refine zr_aload_n C 0 dX8_arcs_119 rfl rfl ?_
    refine zr_iconst C (v := 0) dX8_arcs_120 (by decide) ?_
    refine zp_X8_93 C zo_47 zb_0 dX8_arcs_121 ?_
    refine zr_letM (fun M7 hM7 => ?_)
    have h := h M7 hM7
    refine zr_aload_n C 0 dX8_arcs_124 rfl rfl ?_
    refine zr_iconst C (v := 0) dX8_arcs_125 (by decide) ?_
    refine zp_X8_97 C zo_47 dX8_arcs_126 ?_
    refine zr_letM (fun M8 hM8 => ?_)
    have h := h M8 hM8
    refine zr_aload_n C 0 dX8_arcs_129 rfl rfl ?_
    refine zr_iconst C (v := 0) dX8_arcs_130 (by decide) ?_
    refine zp_X8_100 C zo_47 dX8_arcs_131 ?_
    refine zr_letM (fun M9 hM9 => ?_)
    have h := h M9 hM9
    refine zr_aload_n C 0 dX8_arcs_134 rfl rfl ?_
    refine zg_X8_19 C zo_47 dX8_arcs_135 ?_
    refine zr_iconst C (v := 0) dX8_arcs_138 (by decide) ?_
    refine zr_iconst C (v := 0) dX8_arcs_139 (by decide) ?_
    refine zr_zast C za_51 h.1 dX8_arcs_140 ?_
    have h := h.2
    refine zr_letM (fun M10 hM10 => ?_)
    have h := h M10 hM10
    refine zr_aload_n C 0 dX8_arcs_141 rfl rfl ?_
    refine zg_X8_19 C zo_47 dX8_arcs_142 ?_
    refine zr_iconst C (v := 1) dX8_arcs_145 (by decide) ?_
    refine zr_iconst C (v := 0) dX8_arcs_146 (by decide) ?_
    refine zr_zast C za_51 h.1 dX8_arcs_147 ?_
    have h := h.2
    refine zr_letM (fun M11 hM11 => ?_)
    have h := h M11 hM11
    refine zr_aload_n C 0 dX8_arcs_148 rfl rfl ?_
    refine zr_iconst C (v := 0) dX8_arcs_149 (by decide) ?_
    refine zp_X8_67 C zo_47 dX8_arcs_150 ?_
    refine zr_letM (fun M12 hM12 => ?_)
    have h := h M12 hM12
    refine zr_aload_n C 0 dX8_arcs_153 rfl rfl ?_
    refine zg_X8_56 C zo_47 dX8_arcs_154 ?_
    exact R _ _ _ _ h dX8_arcs_157
  · have h := h.2 c
    refine zr_aload_n C 0 dX8_arcs_93 rfl rfl ?_
    refine zg_X8_7 C zo_47 dX8_arcs_94 ?_
    refine zr_iload_n C 1 dX8_arcs_97 rfl rfl ?_
    refine zr_aload_n C 0 dX8_arcs_98 rfl rfl ?_
    refine zg_X8_35 C zo_47 dX8_arcs_99 ?_
    refine zr_iload_n C 1 dX8_arcs_102 rfl rfl ?_
    refine zr_iald C za_56 h.1 dX8_arcs_103 ?_
    have h := h.2
    refine zr_iast C za_48 h.1 dX8_arcs_104 ?_
    have h := h.2
    refine zr_letM (fun M13 hM13 => ?_)
    have h := h M13 hM13
    obtain ⟨v14, hv14⟩ : ∃ y : Int32, y = x1 + (1 : Int32) := ⟨_, rfl⟩
    have h := h v14 hv14
    refine zr_iinc C 1 [1, 0] dX8_arcs_105 rfl (by rw [hv14]; rfl) (by decide) rfl (lv' := [(0, zR G 47), (1, .int v14)]) ?_
    refine zr_goto C 87 dX8_arcs_108 (by decide) ?_
    exact hk87 _ _ h
theorem w_X8_arcs_l87 {G : zG} {X : zX} (C : zC G X cX8_arcs RX8 4 2) (N : Nat) (Q : Int32 → zMem → Prop) (R : zRI G X cX8_arcs Q)  : ∀ (n : Nat) (x1 : Int32) (M : zMem), f_X8_arcs_l87 N  Q n x1 M → zV G X M [(0, zR G 47), (1, .int x1)] [] 87 := by
  intro n
  induction n with
  | zero => intro x1 M h; exact h.elim
  | succ n ih =>
    intro x1 M h
    exact w_X8_arcs_b87 C N Q R   _ ih x1 M h
set_option maxHeartbeats 4000000 in
set_option maxRecDepth 100000 in
theorem w_X8_arcs_b70 {G : zG} {X : zX} (C : zC G X cX8_arcs RX8 4 2) (N : Nat) (Q : Int32 → zMem → Prop) (R : zRI G X cX8_arcs Q)  (M : zMem) (h : f_X8_arcs_b70 N  M Q) : zV G X M [(0, zR G 47)] [] 70 := by
  unfold f_X8_arcs_b70 at h
  refine zr_bipush C (v := -10) dX8_arcs_70 (by decide) ?_
  refine zr_aload_n C 0 dX8_arcs_72 rfl rfl ?_
  refine zg_X8_73 C zo_47 dX8_arcs_73 ?_
  refine zr_isub C dX8_arcs_76 ?_
  exact R _ _ _ _ h dX8_arcs_77
set_option maxHeartbeats 4000000 in
set_option maxRecDepth 100000 in
theorem w_X8_arcs_b57 {G : zG} {X : zX} (C : zC G X cX8_arcs RX8 4 2) (N : Nat) (Q : Int32 → zMem → Prop) (R : zRI G X cX8_arcs Q) (x1 : Int32) (k19 : zMem → Prop) (hk19 : ∀  (M : zMem), k19  M → zV G X M [(0, zR G 47)] [] 19) (M : zMem) (h : f_X8_arcs_b57 N k19 x1 M Q) : zV G X M [(0, zR G 47), (1, .int x1)] [] 57 := by
  unfold f_X8_arcs_b57 at h
  refine zr_iload_n C 1 dX8_arcs_57 rfl rfl ?_
  refine zr_if_eq C 70 dX8_arcs_58 (by decide) (fun c => ?_) (fun c => ?_)
  · have h := h.1 c
    refine zr_sub [0] rfl (lv' := [(0, zR G 47)]) ?_
    exact w_X8_arcs_b70 C N Q R  _ h
  · have h := h.2 c
    refine zr_aload_n C 0 dX8_arcs_61 rfl rfl ?_
    refine zg_X8_76 C zo_47 dX8_arcs_62 ?_
    refine zr_bipush C (v := 59) dX8_arcs_65 (by decide) ?_
    refine zr_icmp_eq C 78 dX8_arcs_67 (by decide) (fun c => ?_) (fun c => ?_)
    · have h := h.1 c
      refine zr_aload_n C 0 dX8_arcs_78 rfl rfl ?_
      refine zcU (zrunV C (rest := []) (c_X8_takes X.2.1 G N  _ _ h) zk_X8_takes zl_X8_86 (zRc_7 zo_47) (by decide) (by decide) rfl (Nat.le_of_ble_eq_true rfl) rfl dX8_arcs_79) (fun M16 h => ?_)
      refine zr_goto C 19 dX8_arcs_82 (by decide) ?_
      refine zr_sub [0] rfl (lv' := [(0, zR G 47)]) ?_
      exact hk19  _ h
    · have h := h.2 c
      refine zr_sub [0] rfl (lv' := [(0, zR G 47)]) ?_
      exact w_X8_arcs_b70 C N Q R  _ h
set_option maxHeartbeats 4000000 in
set_option maxRecDepth 100000 in
theorem w_X8_arcs_b48 {G : zG} {X : zX} (C : zC G X cX8_arcs RX8 4 2) (N : Nat) (Q : Int32 → zMem → Prop) (R : zRI G X cX8_arcs Q) (s0 : Int32) (k19 : zMem → Prop) (hk19 : ∀  (M : zMem), k19  M → zV G X M [(0, zR G 47)] [] 19) (M : zMem) (h : f_X8_arcs_b48 N k19 s0 M Q) : zV G X M [(0, zR G 47)] [.int s0] 48 := by
  unfold f_X8_arcs_b48 at h
  refine zr_istore_n C [1, 0] dX8_arcs_48 rfl (by decide) rfl (lv' := [(0, zR G 47), (1, .int s0)]) ?_
  refine zr_iload_n C 1 dX8_arcs_49 rfl rfl ?_
  refine zr_if_eq C 57 dX8_arcs_50 (by decide) (fun c => ?_) (fun c => ?_)
  · have h := h.1 c
    exact w_X8_arcs_b57 C N Q R _ _ hk19 _ h
  · have h := h.2 c
    refine zr_aload_n C 0 dX8_arcs_53 rfl rfl ?_
    refine zcU (zrunV C (rest := []) (c_X8_takes X.2.1 G N  _ _ h) zk_X8_takes zl_X8_86 (zRc_7 zo_47) (by decide) (by decide) rfl (Nat.le_of_ble_eq_true rfl) rfl dX8_arcs_54) (fun M18 h => ?_)
    exact w_X8_arcs_b57 C N Q R _ _ hk19 _ h
set_option maxHeartbeats 4000000 in
set_option maxRecDepth 100000 in
theorem w_X8_arcs_b47 {G : zG} {X : zX} (C : zC G X cX8_arcs RX8 4 2) (N : Nat) (Q : Int32 → zMem → Prop) (R : zRI G X cX8_arcs Q) (k19 : zMem → Prop) (hk19 : ∀  (M : zMem), k19  M → zV G X M [(0, zR G 47)] [] 19) (M : zMem) (h : f_X8_arcs_b47 N k19 M Q) : zV G X M [(0, zR G 47)] [] 47 := by
  unfold f_X8_arcs_b47 at h
  refine zr_iconst C (v := 0) dX8_arcs_47 (by decide) ?_
  exact w_X8_arcs_b48 C N Q R _ _ hk19 _ h
set_option maxHeartbeats 4000000 in
set_option maxRecDepth 100000 in
theorem w_X8_arcs_b19 {G : zG} {X : zX} (C : zC G X cX8_arcs RX8 4 2) (N : Nat) (Q : Int32 → zMem → Prop) (R : zRI G X cX8_arcs Q) (k19 : zMem → Prop) (hk19 : ∀  (M : zMem), k19  M → zV G X M [(0, zR G 47)] [] 19) (M : zMem) (h : f_X8_arcs_b19 N k19 M Q) : zV G X M [(0, zR G 47)] [] 19 := by
  unfold f_X8_arcs_b19 at h
  refine zr_aload_n C 0 dX8_arcs_19 rfl rfl ?_
  refine zg_X8_76 C zo_47 dX8_arcs_20 ?_
  refine zr_iconst C (v := -1) dX8_arcs_23 (by decide) ?_
  refine zr_icmp_eq C 85 dX8_arcs_24 (by decide) (fun c => ?_) (fun c => ?_)
  · have h := h.1 c
    refine zr_iconst C (v := 0) dX8_arcs_85 (by decide) ?_
    refine zr_istore_n C [1, 0] dX8_arcs_86 rfl (by decide) rfl (lv' := [(0, zR G 47), (1, .int (0 : Int32))]) ?_
    exact w_X8_arcs_l87 C N Q R  N _ _ h
  · have h := h.2 c
    refine zr_aload_n C 0 dX8_arcs_27 rfl rfl ?_
    refine zg_X8_76 C zo_47 dX8_arcs_28 ?_
    refine zr_bipush C (v := 97) dX8_arcs_31 (by decide) ?_
    refine zr_icmp_ne C 47 dX8_arcs_33 (by decide) (fun c => ?_) (fun c => ?_)
    · have h := h.1 c
      exact w_X8_arcs_b47 C N Q R _ hk19 _ h
    · have h := h.2 c
      refine zr_aload_n C 0 dX8_arcs_36 rfl rfl ?_
      refine zcI (zrunV C (rest := []) (c_X8_readsArc X.2.1 G N  _ _ h) zk_X8_readsArc zl_X8_89 (zRc_7 zo_47) (by decide) (by decide) rfl (Nat.le_of_ble_eq_true rfl) rfl dX8_arcs_37) (fun r19 M20 h => ?_)
      refine zr_if_eq C 47 dX8_arcs_40 (by decide) (fun c => ?_) (fun c => ?_)
      · have h := h.1 c
        exact w_X8_arcs_b47 C N Q R _ hk19 _ h
      · have h := h.2 c
        refine zr_iconst C (v := 1) dX8_arcs_43 (by decide) ?_
        refine zr_goto C 48 dX8_arcs_44 (by decide) ?_
        exact w_X8_arcs_b48 C N Q R _ _ hk19 _ h
theorem w_X8_arcs_l19 {G : zG} {X : zX} (C : zC G X cX8_arcs RX8 4 2) (N : Nat) (Q : Int32 → zMem → Prop) (R : zRI G X cX8_arcs Q)  : ∀ (n : Nat)  (M : zMem), f_X8_arcs_l19 N  Q n  M → zV G X M [(0, zR G 47)] [] 19 := by
  intro n
  induction n with
  | zero => intro  M h; exact h.elim
  | succ n ih =>
    intro  M h
    exact w_X8_arcs_b19 C N Q R   _ ih  M h
set_option maxHeartbeats 4000000 in
set_option maxRecDepth 100000 in
theorem c_X8_arcs (l : Launch) (G : zG) (N : Nat)  (M : zMem) (Q : Int32 → zMem → Prop) (h : f_X8_arcs N  M Q) : zMI l G yX8_arcs cX8_arcs 2 .int 4 [zR G 47] M Q := by
  refine zEI (by decide) (Nat.le_of_ble_eq_true rfl) (lv := [(0, zR G 47)]) rfl (fun X C R => ?_)
  have C : zC G X cX8_arcs RX8 4 2 := C
  unfold f_X8_arcs at h
  refine zr_aload_n C 0 dX8_arcs_0 rfl rfl ?_
  refine zr_iconst C (v := 0) dX8_arcs_1 (by decide) ?_
  refine zp_X8_60 C zo_47 dX8_arcs_2 ?_
  refine zr_letM (fun M1 hM1 => ?_)
  have h := h M1 hM1
  refine zr_aload_n C 0 dX8_arcs_5 rfl rfl ?_
  refine zr_iconst C (v := 0) dX8_arcs_6 (by decide) ?_
  refine zp_X8_83 C zo_47 dX8_arcs_7 ?_
  refine zr_letM (fun M2 hM2 => ?_)
  have h := h M2 hM2
  refine zr_aload_n C 0 dX8_arcs_10 rfl rfl ?_
  refine zr_iconst C (v := 0) dX8_arcs_11 (by decide) ?_
  refine zp_X8_70 C zo_47 dX8_arcs_12 ?_
  refine zr_letM (fun M3 hM3 => ?_)
  have h := h M3 hM3
  refine zr_aload_n C 0 dX8_arcs_15 rfl rfl ?_
  refine zcU (zrunV C (rest := []) (c_X8_takes X.2.1 G N  _ _ h) zk_X8_takes zl_X8_86 (zRc_7 zo_47) (by decide) (by decide) rfl (Nat.le_of_ble_eq_true rfl) rfl dX8_arcs_16) (fun M5 h => ?_)
  exact w_X8_arcs_l19 C N Q R  N  _ h
/-! X8_placeOf -/
set_option maxHeartbeats 4000000 in
set_option maxRecDepth 100000 in
theorem c_X8_placeOf (l : Launch) (G : zG) (N : Nat) (x1 : Int32) (x2 : Int32) (x3 : Int32) (x4 : Int32) (x5 : Int32) (M : zMem) (Q : Int32 → zMem → Prop) (h : f_X8_placeOf N x1 x2 x3 x4 x5 M Q) : zMI l G yX8_placeOf cX8_placeOf 10 .int 0 [zR G 47, .int x1, .int x2, .int x3, .int x4, .int x5] M Q := by
  refine zEI (by decide) (Nat.le_of_ble_eq_true rfl) (lv := [(0, zR G 47), (1, .int x1), (2, .int x2), (3, .int x3), (4, .int x4), (5, .int x5)]) rfl (fun X C R => ?_)
  have C : zC G X cX8_placeOf RX8 0 10 := C
  unfold f_X8_placeOf at h
  refine zr_bipush C (v := 32) dX8_placeOf_0 (by decide) ?_
  refine zr_iload_n C 3 dX8_placeOf_2 rfl rfl ?_
  refine zr_isub C dX8_placeOf_3 ?_
  refine zr_letI (fun v1 hv1 => ?_)
  have h := h v1 hv1
  refine zr_istore C [1, 2, 3, 4, 5, 6, 0] dX8_placeOf_4 (by decide) rfl (lv' := [(0, zR G 47), (1, .int x1), (2, .int x2), (3, .int x3), (4, .int x4), (5, .int x5), (6, .int v1)]) ?_
  refine zr_bipush C (v := 32) dX8_placeOf_6 (by decide) ?_
  refine zr_iload C 4 dX8_placeOf_8 rfl ?_
  refine zr_isub C dX8_placeOf_10 ?_
  refine zr_letI (fun v2 hv2 => ?_)
  have h := h v2 hv2
  refine zr_istore C [1, 2, 3, 4, 5, 6, 7, 0] dX8_placeOf_11 (by decide) rfl (lv' := [(0, zR G 47), (1, .int x1), (2, .int x2), (3, .int x3), (4, .int x4), (5, .int x5), (6, .int v1), (7, .int v2)]) ?_
  refine zr_bipush C (v := 32) dX8_placeOf_13 (by decide) ?_
  refine zr_iload C 5 dX8_placeOf_15 rfl ?_
  refine zr_isub C dX8_placeOf_17 ?_
  refine zr_letI (fun v3 hv3 => ?_)
  have h := h v3 hv3
  refine zr_istore C [1, 2, 3, 4, 5, 6, 7, 8, 0] dX8_placeOf_18 (by decide) rfl (lv' := [(0, zR G 47), (1, .int x1), (2, .int x2), (3, .int x3), (4, .int x4), (5, .int x5), (6, .int v1), (7, .int v2), (8, .int v3)]) ?_
  refine zr_bipush C (v := 8) dX8_placeOf_20 (by decide) ?_
  refine zr_iload_n C 1 dX8_placeOf_22 rfl rfl ?_
  refine zr_imul C dX8_placeOf_23 ?_
  refine zr_iload_n C 2 dX8_placeOf_24 rfl rfl ?_
  refine zr_iadd C dX8_placeOf_25 ?_
  refine zr_letI (fun v4 hv4 => ?_)
  have h := h v4 hv4
  refine zr_istore C [1, 4, 5, 6, 7, 8, 9, 0] dX8_placeOf_26 (by decide) rfl (lv' := [(0, zR G 47), (3, .int x3), (4, .int x4), (5, .int x5), (6, .int v1), (7, .int v2), (8, .int v3), (9, .int v4)]) ?_
  refine zr_aload_n C 0 dX8_placeOf_28 rfl rfl ?_
  refine zg_X8_7 C zo_47 dX8_placeOf_29 ?_
  refine zr_iload C 7 dX8_placeOf_32 rfl ?_
  refine zr_iald C za_48 h.1 dX8_placeOf_34 ?_
  have h := h.2
  refine zr_iload C 4 dX8_placeOf_35 rfl ?_
  refine zr_imul C dX8_placeOf_37 ?_
  refine zr_iload C 5 dX8_placeOf_38 rfl ?_
  refine zr_imul C dX8_placeOf_40 ?_
  refine zr_iload C 6 dX8_placeOf_41 rfl ?_
  refine zr_imul C dX8_placeOf_43 ?_
  refine zr_aload_n C 0 dX8_placeOf_44 rfl rfl ?_
  refine zg_X8_7 C zo_47 dX8_placeOf_45 ?_
  refine zr_iload C 7 dX8_placeOf_48 rfl ?_
  refine zr_iconst C (v := 2) dX8_placeOf_50 (by decide) ?_
  refine zr_iadd C dX8_placeOf_51 ?_
  refine zr_iald C za_48 h.1 dX8_placeOf_52 ?_
  have h := h.2
  refine zr_iload_n C 1 dX8_placeOf_53 rfl rfl ?_
  refine zr_iload C 5 dX8_placeOf_54 rfl ?_
  refine zr_imul C dX8_placeOf_56 ?_
  refine zr_iload C 6 dX8_placeOf_57 rfl ?_
  refine zr_imul C dX8_placeOf_59 ?_
  refine zr_iload C 4 dX8_placeOf_60 rfl ?_
  refine zr_iload C 2 dX8_placeOf_62 rfl ?_
  refine zr_imul C dX8_placeOf_64 ?_
  refine zr_iload C 6 dX8_placeOf_65 rfl ?_
  refine zr_imul C dX8_placeOf_67 ?_
  refine zr_iadd C dX8_placeOf_68 ?_
  refine zr_iload C 4 dX8_placeOf_69 rfl ?_
  refine zr_iload C 5 dX8_placeOf_71 rfl ?_
  refine zr_imul C dX8_placeOf_73 ?_
  refine zr_iload C 3 dX8_placeOf_74 rfl ?_
  refine zr_imul C dX8_placeOf_76 ?_
  refine zr_iadd C dX8_placeOf_77 ?_
  refine zr_imul C dX8_placeOf_78 ?_
  refine zr_iadd C dX8_placeOf_79 ?_
  refine zr_aload_n C 0 dX8_placeOf_80 rfl rfl ?_
  refine zg_X8_7 C zo_47 dX8_placeOf_81 ?_
  refine zr_iload C 7 dX8_placeOf_84 rfl ?_
  refine zr_iconst C (v := 4) dX8_placeOf_86 (by decide) ?_
  refine zr_iadd C dX8_placeOf_87 ?_
  refine zr_iald C za_48 h.1 dX8_placeOf_88 ?_
  have h := h.2
  refine zr_iload_n C 1 dX8_placeOf_89 rfl rfl ?_
  refine zr_iload C 2 dX8_placeOf_90 rfl ?_
  refine zr_imul C dX8_placeOf_92 ?_
  refine zr_iload C 6 dX8_placeOf_93 rfl ?_
  refine zr_imul C dX8_placeOf_95 ?_
  refine zr_iload_n C 1 dX8_placeOf_96 rfl rfl ?_
  refine zr_iload C 5 dX8_placeOf_97 rfl ?_
  refine zr_imul C dX8_placeOf_99 ?_
  refine zr_iload C 3 dX8_placeOf_100 rfl ?_
  refine zr_imul C dX8_placeOf_102 ?_
  refine zr_iadd C dX8_placeOf_103 ?_
  refine zr_iload C 4 dX8_placeOf_104 rfl ?_
  refine zr_iload C 2 dX8_placeOf_106 rfl ?_
  refine zr_imul C dX8_placeOf_108 ?_
  refine zr_iload C 3 dX8_placeOf_109 rfl ?_
  refine zr_imul C dX8_placeOf_111 ?_
  refine zr_iadd C dX8_placeOf_112 ?_
  refine zr_imul C dX8_placeOf_113 ?_
  refine zr_iadd C dX8_placeOf_114 ?_
  refine zr_aload_n C 0 dX8_placeOf_115 rfl rfl ?_
  refine zg_X8_7 C zo_47 dX8_placeOf_116 ?_
  refine zr_iload C 7 dX8_placeOf_119 rfl ?_
  refine zr_bipush C (v := 6) dX8_placeOf_121 (by decide) ?_
  refine zr_iadd C dX8_placeOf_123 ?_
  refine zr_iald C za_48 h.1 dX8_placeOf_124 ?_
  have h := h.2
  refine zr_iload_n C 1 dX8_placeOf_125 rfl rfl ?_
  refine zr_imul C dX8_placeOf_126 ?_
  refine zr_iload C 2 dX8_placeOf_127 rfl ?_
  refine zr_imul C dX8_placeOf_129 ?_
  refine zr_iload C 3 dX8_placeOf_130 rfl ?_
  refine zr_imul C dX8_placeOf_132 ?_
  refine zr_iadd C dX8_placeOf_133 ?_
  exact R _ _ _ _ h dX8_placeOf_134
/-! X8_depth -/
set_option maxHeartbeats 4000000 in
set_option maxRecDepth 100000 in
theorem w_X8_depth_b2 {G : zG} {X : zX} (C : zC G X cX8_depth RX8 0 2) (N : Nat) (Q : Int32 → zMem → Prop) (R : zRI G X cX8_depth Q) (x0 : Int32) (k2 : Int32 → zMem → Prop) (hk2 : ∀ (z1 : Int32) (M : zMem), k2 z1 M → zV G X M [(0, .int x0), (1, .int z1)] [] 2) (x1 : Int32) (M : zMem) (h : f_X8_depth_b2 N k2 x0 x1 M Q) : zV G X M [(0, .int x0), (1, .int x1)] [] 2 := by
  unfold f_X8_depth_b2 at h
  refine zr_iload_n C 0 dX8_depth_2 rfl rfl ?_
  refine zr_iload_n C 1 dX8_depth_3 rfl rfl ?_
  refine zr_iconst C (v := 1) dX8_depth_4 (by decide) ?_
  refine zr_iadd C dX8_depth_5 ?_
  refine zr_ishr C dX8_depth_6 ?_
  refine zr_if_le C 16 dX8_depth_7 (by decide) (fun c => ?_) (fun c => ?_)
  · have h := h.1 c
    refine zr_iload_n C 1 dX8_depth_16 rfl rfl ?_
    exact R _ _ _ _ h dX8_depth_17
  · have h := h.2 c
    obtain ⟨v1, hv1⟩ : ∃ y : Int32, y = x1 + (1 : Int32) := ⟨_, rfl⟩
    have h := h v1 hv1
    refine zr_iinc C 1 [1, 0] dX8_depth_10 rfl (by rw [hv1]; rfl) (by decide) rfl (lv' := [(0, .int x0), (1, .int v1)]) ?_
    refine zr_goto C 2 dX8_depth_13 (by decide) ?_
    exact hk2 _ _ h
theorem w_X8_depth_l2 {G : zG} {X : zX} (C : zC G X cX8_depth RX8 0 2) (N : Nat) (Q : Int32 → zMem → Prop) (R : zRI G X cX8_depth Q) (x0 : Int32) : ∀ (n : Nat) (x1 : Int32) (M : zMem), f_X8_depth_l2 N x0 Q n x1 M → zV G X M [(0, .int x0), (1, .int x1)] [] 2 := by
  intro n
  induction n with
  | zero => intro x1 M h; exact h.elim
  | succ n ih =>
    intro x1 M h
    exact w_X8_depth_b2 C N Q R x0  _ ih x1 M h
set_option maxHeartbeats 4000000 in
set_option maxRecDepth 100000 in
theorem c_X8_depth (l : Launch) (G : zG) (N : Nat) (x0 : Int32) (M : zMem) (Q : Int32 → zMem → Prop) (h : f_X8_depth N x0 M Q) : zMI l G yX8_depth cX8_depth 2 .int 0 [.int x0] M Q := by
  refine zEI (by decide) (Nat.le_of_ble_eq_true rfl) (lv := [(0, .int x0)]) rfl (fun X C R => ?_)
  have C : zC G X cX8_depth RX8 0 2 := C
  unfold f_X8_depth at h
  refine zr_iconst C (v := 0) dX8_depth_0 (by decide) ?_
  refine zr_istore_n C [1, 0] dX8_depth_1 rfl (by decide) rfl (lv' := [(0, .int x0), (1, .int (0 : Int32))]) ?_
  exact w_X8_depth_l2 C N Q R _ N _ _ h
/-! X8_from -/
set_option maxHeartbeats 4000000 in
set_option maxRecDepth 100000 in
theorem c_X8_from (l : Launch) (G : zG) (N : Nat) (x0 : Int32) (M : zMem) (Q : Int32 → zMem → Prop) (h : f_X8_from N x0 M Q) : zMI l G yX8_from cX8_from 2 .int 1 [.int x0] M Q := by
  refine zEI (by decide) (Nat.le_of_ble_eq_true rfl) (lv := [(0, .int x0)]) rfl (fun X C R => ?_)
  have C : zC G X cX8_from RX8 1 2 := C
  unfold f_X8_from at h
  refine zr_iload_n C 0 dX8_from_0 rfl rfl ?_
  refine zcI (zrunS C (rest := []) (c_X8_depth X.2.1 G N _ _ _ h) zk_X8_depth zl_X8_103 (by decide) (by decide) rfl (Nat.le_of_ble_eq_true rfl) rfl dX8_from_1) (fun r1 M2 h => ?_)
  refine zr_istore_n C [1, 0] dX8_from_4 rfl (by decide) rfl (lv' := [(0, .int x0), (1, .int r1)]) ?_
  refine zr_iload_n C 0 dX8_from_5 rfl rfl ?_
  refine zr_iconst C (v := 1) dX8_from_6 (by decide) ?_
  refine zr_iload_n C 1 dX8_from_7 rfl rfl ?_
  refine zr_ishl C dX8_from_8 ?_
  refine zr_isub C dX8_from_9 ?_
  refine zr_iconst C (v := 5) dX8_from_10 (by decide) ?_
  refine zr_iload_n C 1 dX8_from_11 rfl rfl ?_
  refine zr_isub C dX8_from_12 ?_
  refine zr_ishl C dX8_from_13 ?_
  exact R _ _ _ _ h dX8_from_14
/-! X8_to -/
set_option maxHeartbeats 4000000 in
set_option maxRecDepth 100000 in
theorem c_X8_to (l : Launch) (G : zG) (N : Nat) (x0 : Int32) (M : zMem) (Q : Int32 → zMem → Prop) (h : f_X8_to N x0 M Q) : zMI l G yX8_to cX8_to 1 .int 2 [.int x0] M Q := by
  refine zEI (by decide) (Nat.le_of_ble_eq_true rfl) (lv := [(0, .int x0)]) rfl (fun X C R => ?_)
  have C : zC G X cX8_to RX8 2 1 := C
  unfold f_X8_to at h
  refine zr_iload_n C 0 dX8_to_0 rfl rfl ?_
  refine zcI (zrunS C (rest := []) (c_X8_from X.2.1 G N _ _ _ h) zk_X8_from zl_X8_107 (by decide) (by decide) rfl (Nat.le_of_ble_eq_true rfl) rfl dX8_to_1) (fun r1 M2 h => ?_)
  refine zr_iconst C (v := 1) dX8_to_4 (by decide) ?_
  refine zr_iconst C (v := 5) dX8_to_5 (by decide) ?_
  refine zr_iload_n C 0 dX8_to_6 rfl rfl ?_
  refine zcI (zrunS C (rest := [.int (5 : Int32), .int (1 : Int32), .int r1]) (c_X8_depth X.2.1 G N _ _ _ h) zk_X8_depth zl_X8_103 (by decide) (by decide) rfl (Nat.le_of_ble_eq_true rfl) rfl dX8_to_7) (fun r3 M4 h => ?_)
  refine zr_isub C dX8_to_10 ?_
  refine zr_ishl C dX8_to_11 ?_
  refine zr_iadd C dX8_to_12 ?_
  exact R _ _ _ _ h dX8_to_13
/-! X8_lays -/
set_option maxHeartbeats 4000000 in
set_option maxRecDepth 100000 in
theorem w_X8_lays_b117 {G : zG} {X : zX} (C : zC G X cX8_lays RX8 3 7) (N : Nat) (Q : zMem → Prop) (R : zRU G X cX8_lays Q) (x1 : Int32) (k15 : Int32 → zMem → Prop) (hk15 : ∀ (z1 : Int32) (M : zMem), k15 z1 M → zV G X M [(0, zR G 47), (1, .int z1)] [] 15) (M : zMem) (h : f_X8_lays_b117 N k15 x1 M Q) : zV G X M [(0, zR G 47), (1, .int x1)] [] 117 := by
  unfold f_X8_lays_b117 at h
  obtain ⟨v4, hv4⟩ : ∃ y : Int32, y = x1 + (1 : Int32) := ⟨_, rfl⟩
  have h := h v4 hv4
  refine zr_iinc C 1 [1, 0] dX8_lays_117 rfl (by rw [hv4]; rfl) (by decide) rfl (lv' := [(0, zR G 47), (1, .int v4)]) ?_
  refine zr_goto C 15 dX8_lays_120 (by decide) ?_
  exact hk15 _ _ h
set_option maxHeartbeats 4000000 in
set_option maxRecDepth 100000 in
theorem w_X8_lays_b113 {G : zG} {X : zX} (C : zC G X cX8_lays RX8 3 7) (N : Nat) (Q : zMem → Prop) (R : zRU G X cX8_lays Q) (x1 : Int32) (s1 : Int32) (s3 : Int32) (s4 : Int32) (s5 : Int32) (s6 : Int32) (s7 : Int32) (k15 : Int32 → zMem → Prop) (hk15 : ∀ (z1 : Int32) (M : zMem), k15 z1 M → zV G X M [(0, zR G 47), (1, .int z1)] [] 15) (M : zMem) (h : f_X8_lays_b113 N k15 x1 s1 s3 s4 s5 s6 s7 M Q) : zV G X M [(0, zR G 47), (1, .int x1)] [.int s7, .int s6, .int s5, .int s4, .int s3, zR G 47, .int s1, zR G 54] 113 := by
  unfold f_X8_lays_b113 at h
  refine zcI (zrunV C (rest := [.int s1, zR G 54]) (c_X8_placeOf X.2.1 G N _ _ _ _ _ _ _ h) zk_X8_placeOf zl_X8_113 (zRc_7 zo_47) (by decide) (by decide) rfl (Nat.le_of_ble_eq_true rfl) rfl dX8_lays_113) (fun r10 M11 h => ?_)
  refine zr_iast C za_54 h.1 dX8_lays_116 ?_
  have h := h.2
  refine zr_letM (fun M12 hM12 => ?_)
  have h := h M12 hM12
  exact w_X8_lays_b117 C N Q R _ _ hk15 _ h
set_option maxHeartbeats 4000000 in
set_option maxRecDepth 100000 in
theorem w_X8_lays_b100 {G : zG} {X : zX} (C : zC G X cX8_lays RX8 3 7) (N : Nat) (Q : zMem → Prop) (R : zRU G X cX8_lays Q) (x1 : Int32) (x4 : Int32) (x5 : Int32) (x6 : Int32) (s1 : Int32) (s3 : Int32) (s4 : Int32) (s5 : Int32) (s6 : Int32) (k15 : Int32 → zMem → Prop) (hk15 : ∀ (z1 : Int32) (M : zMem), k15 z1 M → zV G X M [(0, zR G 47), (1, .int z1)] [] 15) (M : zMem) (h : f_X8_lays_b100 N k15 x1 x4 x5 x6 s1 s3 s4 s5 s6 M Q) : zV G X M [(0, zR G 47), (1, .int x1), (4, .int x4), (5, .int x5), (6, .int x6)] [.int s6, .int s5, .int s4, .int s3, zR G 47, .int s1, zR G 54] 100 := by
  unfold f_X8_lays_b100 at h
  refine zr_iload C 2 dX8_lays_100 rfl ?_
  refine zr_iconst C (v := 2) dX8_lays_102 (by decide) ?_
  refine zr_icmp_le C 111 dX8_lays_103 (by decide) (fun c => ?_) (fun c => ?_)
  · have h := h.1 c
    refine zr_iload C 3 dX8_lays_111 rfl ?_
    refine zr_sub [0, 1] rfl (lv' := [(0, zR G 47), (1, .int x1)]) ?_
    exact w_X8_lays_b113 C N Q R _ _ _ _ _ _ _ _ hk15 _ h
  · have h := h.2 c
    refine zr_iload C 4 dX8_lays_106 rfl ?_
    refine zr_goto C 113 dX8_lays_108 (by decide) ?_
    refine zr_sub [0, 1] rfl (lv' := [(0, zR G 47), (1, .int x1)]) ?_
    exact w_X8_lays_b113 C N Q R _ _ _ _ _ _ _ _ hk15 _ h
set_option maxHeartbeats 4000000 in
set_option maxRecDepth 100000 in
theorem w_X8_lays_b87 {G : zG} {X : zX} (C : zC G X cX8_lays RX8 3 7) (N : Nat) (Q : zMem → Prop) (R : zRU G X cX8_lays Q) (x1 : Int32) (x4 : Int32) (x5 : Int32) (x6 : Int32) (s1 : Int32) (s3 : Int32) (s4 : Int32) (s5 : Int32) (k15 : Int32 → zMem → Prop) (hk15 : ∀ (z1 : Int32) (M : zMem), k15 z1 M → zV G X M [(0, zR G 47), (1, .int z1)] [] 15) (M : zMem) (h : f_X8_lays_b87 N k15 x1 x4 x5 x6 s1 s3 s4 s5 M Q) : zV G X M [(0, zR G 47), (1, .int x1), (4, .int x4), (5, .int x5), (6, .int x6)] [.int s5, .int s4, .int s3, zR G 47, .int s1, zR G 54] 87 := by
  unfold f_X8_lays_b87 at h
  refine zr_iload C 2 dX8_lays_87 rfl ?_
  refine zr_iconst C (v := 1) dX8_lays_89 (by decide) ?_
  refine zr_icmp_le C 98 dX8_lays_90 (by decide) (fun c => ?_) (fun c => ?_)
  · have h := h.1 c
    refine zr_iload C 3 dX8_lays_98 rfl ?_
    exact w_X8_lays_b100 C N Q R _ _ _ _ _ _ _ _ _ _ hk15 _ h
  · have h := h.2 c
    refine zr_iload C 4 dX8_lays_93 rfl ?_
    refine zr_goto C 100 dX8_lays_95 (by decide) ?_
    exact w_X8_lays_b100 C N Q R _ _ _ _ _ _ _ _ _ _ hk15 _ h
set_option maxHeartbeats 4000000 in
set_option maxRecDepth 100000 in
theorem w_X8_lays_b15 {G : zG} {X : zX} (C : zC G X cX8_lays RX8 3 7) (N : Nat) (Q : zMem → Prop) (R : zRU G X cX8_lays Q) (k15 : Int32 → zMem → Prop) (hk15 : ∀ (z1 : Int32) (M : zMem), k15 z1 M → zV G X M [(0, zR G 47), (1, .int z1)] [] 15) (x1 : Int32) (M : zMem) (h : f_X8_lays_b15 N k15 x1 M Q) : zV G X M [(0, zR G 47), (1, .int x1)] [] 15 := by
  unfold f_X8_lays_b15 at h
  refine zr_iload_n C 1 dX8_lays_15 rfl rfl ?_
  refine zr_sipush C (v := 512) dX8_lays_16 (by decide) ?_
  refine zr_aload_n C 0 dX8_lays_19 rfl rfl ?_
  refine zg_X8_56 C zo_47 dX8_lays_20 ?_
  refine zr_imul C dX8_lays_23 ?_
  refine zr_icmp_ge C 123 dX8_lays_24 (by decide) (fun c => ?_) (fun c => ?_)
  · have h := h.1 c
    exact R _ _ _ h dX8_lays_123
  · have h := h.2 c
    refine zr_iload_n C 1 dX8_lays_27 rfl rfl ?_
    refine zr_sipush C (v := 512) dX8_lays_28 (by decide) ?_
    refine zr_idiv C dX8_lays_31 (by decide) ?_
    refine zr_letI (fun v2 hv2 => ?_)
    have h := h v2 hv2
    refine zr_istore_n C [1, 2, 0] dX8_lays_32 rfl (by decide) rfl (lv' := [(0, zR G 47), (1, .int x1), (2, .int v2)]) ?_
    refine zr_iload_n C 1 dX8_lays_33 rfl rfl ?_
    refine zr_bipush C (v := 8) dX8_lays_34 (by decide) ?_
    refine zr_idiv C dX8_lays_36 (by decide) ?_
    refine zr_bipush C (v := 64) dX8_lays_37 (by decide) ?_
    refine zr_irem C dX8_lays_39 (by decide) ?_
    refine zr_letI (fun v3 hv3 => ?_)
    have h := h v3 hv3
    refine zr_istore_n C [1, 2, 3, 0] dX8_lays_40 rfl (by decide) rfl (lv' := [(0, zR G 47), (1, .int x1), (2, .int v2), (3, .int v3)]) ?_
    refine zr_iload_n C 3 dX8_lays_41 rfl rfl ?_
    refine zr_if_le C 117 dX8_lays_42 (by decide) (fun c => ?_) (fun c => ?_)
    · have h := h.1 c
      refine zr_sub [0, 1] rfl (lv' := [(0, zR G 47), (1, .int x1)]) ?_
      exact w_X8_lays_b117 C N Q R _ _ hk15 _ h
    · have h := h.2 c
      refine zr_iload_n C 1 dX8_lays_45 rfl rfl ?_
      refine zr_bipush C (v := 8) dX8_lays_46 (by decide) ?_
      refine zr_irem C dX8_lays_48 (by decide) ?_
      refine zr_iconst C (v := 2) dX8_lays_49 (by decide) ?_
      refine zr_idiv C dX8_lays_50 (by decide) ?_
      refine zr_letI (fun v5 hv5 => ?_)
      have h := h v5 hv5
      refine zr_istore C [1, 2, 3, 4, 0] dX8_lays_51 (by decide) rfl (lv' := [(0, zR G 47), (1, .int x1), (2, .int v2), (3, .int v3), (4, .int v5)]) ?_
      refine zr_iload_n C 3 dX8_lays_53 rfl rfl ?_
      refine zcI (zrunS C (rest := []) (c_X8_from X.2.1 G N _ _ _ h) zk_X8_from zl_X8_107 (by decide) (by decide) rfl (Nat.le_of_ble_eq_true rfl) rfl dX8_lays_54) (fun r6 M7 h => ?_)
      refine zr_istore C [1, 2, 3, 4, 5, 0] dX8_lays_57 (by decide) rfl (lv' := [(0, zR G 47), (1, .int x1), (2, .int v2), (3, .int v3), (4, .int v5), (5, .int r6)]) ?_
      refine zr_iload_n C 3 dX8_lays_59 rfl rfl ?_
      refine zcI (zrunS C (rest := []) (c_X8_to X.2.1 G N _ _ _ h) zk_X8_to zl_X8_110 (by decide) (by decide) rfl (Nat.le_of_ble_eq_true rfl) rfl dX8_lays_60) (fun r8 M9 h => ?_)
      refine zr_istore C [1, 2, 3, 5, 6, 0] dX8_lays_63 (by decide) rfl (lv' := [(0, zR G 47), (1, .int x1), (2, .int v2), (4, .int v5), (5, .int r6), (6, .int r8)]) ?_
      refine zr_aload_n C 0 dX8_lays_65 rfl rfl ?_
      refine zg_X8_29 C zo_47 dX8_lays_66 ?_
      refine zr_iload_n C 1 dX8_lays_69 rfl rfl ?_
      refine zr_aload_n C 0 dX8_lays_70 rfl rfl ?_
      refine zr_iload_n C 2 dX8_lays_71 rfl rfl ?_
      refine zr_iload_n C 1 dX8_lays_72 rfl rfl ?_
      refine zr_iconst C (v := 2) dX8_lays_73 (by decide) ?_
      refine zr_irem C dX8_lays_74 (by decide) ?_
      refine zr_iload C 3 dX8_lays_75 rfl ?_
      refine zr_if_le C 85 dX8_lays_77 (by decide) (fun c => ?_) (fun c => ?_)
      · have h := h.1 c
        refine zr_iload C 4 dX8_lays_85 rfl ?_
        refine zr_sub [0, 1, 3, 4, 5] rfl (lv' := [(0, zR G 47), (1, .int x1), (4, .int v5), (5, .int r6), (6, .int r8)]) ?_
        exact w_X8_lays_b87 C N Q R _ _ _ _ _ _ _ _ _ hk15 _ h
      · have h := h.2 c
        refine zr_iload C 5 dX8_lays_80 rfl ?_
        refine zr_goto C 87 dX8_lays_82 (by decide) ?_
        refine zr_sub [0, 1, 3, 4, 5] rfl (lv' := [(0, zR G 47), (1, .int x1), (4, .int v5), (5, .int r6), (6, .int r8)]) ?_
        exact w_X8_lays_b87 C N Q R _ _ _ _ _ _ _ _ _ hk15 _ h
theorem w_X8_lays_l15 {G : zG} {X : zX} (C : zC G X cX8_lays RX8 3 7) (N : Nat) (Q : zMem → Prop) (R : zRU G X cX8_lays Q)  : ∀ (n : Nat) (x1 : Int32) (M : zMem), f_X8_lays_l15 N  Q n x1 M → zV G X M [(0, zR G 47), (1, .int x1)] [] 15 := by
  intro n
  induction n with
  | zero => intro x1 M h; exact h.elim
  | succ n ih =>
    intro x1 M h
    exact w_X8_lays_b15 C N Q R   _ ih x1 M h
set_option maxHeartbeats 4000000 in
set_option maxRecDepth 100000 in
theorem c_X8_lays (l : Launch) (G : zG) (N : Nat)  (M : zMem) (Q : zMem → Prop) (h : f_X8_lays N  M Q) : zMU l G yX8_lays cX8_lays 7 3 [zR G 47] M Q := by
  refine zEU (by decide) (Nat.le_of_ble_eq_true rfl) (lv := [(0, zR G 47)]) rfl (fun X C R => ?_)
  have C : zC G X cX8_lays RX8 3 7 := C
  unfold f_X8_lays at h
  refine zr_aload_n C 0 dX8_lays_0 rfl rfl ?_
  refine zg_X8_93 C zo_47 dX8_lays_1 ?_
  refine zr_if_eq C 8 dX8_lays_4 (by decide) (fun c => ?_) (fun c => ?_)
  · have h := h.1 c
    refine zr_aload_n C 0 dX8_lays_8 rfl rfl ?_
    refine zr_iconst C (v := 1) dX8_lays_9 (by decide) ?_
    refine zp_X8_93 C zo_47 zb_1 dX8_lays_10 ?_
    refine zr_letM (fun M1 hM1 => ?_)
    have h := h M1 hM1
    refine zr_iconst C (v := 0) dX8_lays_13 (by decide) ?_
    refine zr_istore_n C [1, 0] dX8_lays_14 rfl (by decide) rfl (lv' := [(0, zR G 47), (1, .int (0 : Int32))]) ?_
    exact w_X8_lays_l15 C N Q R  N _ _ h
  · have h := h.2 c
    exact R _ _ _ h dX8_lays_7
/-! X8_at -/
set_option maxHeartbeats 4000000 in
set_option maxRecDepth 100000 in
theorem c_X8_at (l : Launch) (G : zG) (N : Nat) (x1 : Int32) (x2 : Int32) (x3 : Int32) (x4 : Int32) (M : zMem) (Q : Int32 → zMem → Prop) (h : f_X8_at N x1 x2 x3 x4 M Q) : zMI l G yX8_at cX8_at 5 .int 0 [zR G 47, .int x1, .int x2, .int x3, .int x4] M Q := by
  refine zEI (by decide) (Nat.le_of_ble_eq_true rfl) (lv := [(0, zR G 47), (1, .int x1), (2, .int x2), (3, .int x3), (4, .int x4)]) rfl (fun X C R => ?_)
  have C : zC G X cX8_at RX8 0 5 := C
  unfold f_X8_at at h
  refine zr_aload_n C 0 dX8_at_0 rfl rfl ?_
  refine zg_X8_29 C zo_47 dX8_at_1 ?_
  refine zr_bipush C (v := 8) dX8_at_4 (by decide) ?_
  refine zr_bipush C (v := 64) dX8_at_6 (by decide) ?_
  refine zr_iload_n C 1 dX8_at_8 rfl rfl ?_
  refine zr_imul C dX8_at_9 ?_
  refine zr_iload_n C 2 dX8_at_10 rfl rfl ?_
  refine zr_iadd C dX8_at_11 ?_
  refine zr_imul C dX8_at_12 ?_
  refine zr_iconst C (v := 2) dX8_at_13 (by decide) ?_
  refine zr_iload_n C 3 dX8_at_14 rfl rfl ?_
  refine zr_imul C dX8_at_15 ?_
  refine zr_iadd C dX8_at_16 ?_
  refine zr_iload C 4 dX8_at_17 rfl ?_
  refine zr_iadd C dX8_at_19 ?_
  refine zr_iald C za_54 h.1 dX8_at_20 ?_
  have h := h.2
  exact R _ _ _ _ h dX8_at_21
/-! X8_stepOf -/
set_option maxHeartbeats 4000000 in
set_option maxRecDepth 100000 in
theorem c_X8_stepOf (l : Launch) (G : zG) (N : Nat) (x1 : Int32) (x2 : Int32) (x3 : Int32) (x4 : Int32) (M : zMem) (Q : Int32 → zMem → Prop) (h : f_X8_stepOf N x1 x2 x3 x4 M Q) : zMI l G yX8_stepOf cX8_stepOf 5 .int 1 [zR G 47, .int x1, .int x2, .int x3, .int x4] M Q := by
  refine zEI (by decide) (Nat.le_of_ble_eq_true rfl) (lv := [(0, zR G 47), (1, .int x1), (2, .int x2), (3, .int x3), (4, .int x4)]) rfl (fun X C R => ?_)
  have C : zC G X cX8_stepOf RX8 1 5 := C
  unfold f_X8_stepOf at h
  refine zr_aload_n C 0 dX8_stepOf_0 rfl rfl ?_
  refine zr_iload_n C 1 dX8_stepOf_1 rfl rfl ?_
  refine zr_iload_n C 2 dX8_stepOf_2 rfl rfl ?_
  refine zr_iload_n C 3 dX8_stepOf_3 rfl rfl ?_
  refine zr_iconst C (v := 1) dX8_stepOf_4 (by decide) ?_
  refine zr_iadd C dX8_stepOf_5 ?_
  refine zr_iload C 4 dX8_stepOf_6 rfl ?_
  refine zcI (zrunV C (rest := []) (c_X8_at X.2.1 G N _ _ _ _ _ _ h) zk_X8_at zl_X8_117 (zRc_7 zo_47) (by decide) (by decide) rfl (Nat.le_of_ble_eq_true rfl) rfl dX8_stepOf_8) (fun r1 M2 h => ?_)
  refine zr_aload_n C 0 dX8_stepOf_11 rfl rfl ?_
  refine zr_iload_n C 1 dX8_stepOf_12 rfl rfl ?_
  refine zr_iload_n C 2 dX8_stepOf_13 rfl rfl ?_
  refine zr_iload_n C 3 dX8_stepOf_14 rfl rfl ?_
  refine zr_iload C 4 dX8_stepOf_15 rfl ?_
  refine zcI (zrunV C (rest := [.int r1]) (c_X8_at X.2.1 G N _ _ _ _ _ _ h) zk_X8_at zl_X8_117 (zRc_7 zo_47) (by decide) (by decide) rfl (Nat.le_of_ble_eq_true rfl) rfl dX8_stepOf_17) (fun r3 M4 h => ?_)
  refine zr_isub C dX8_stepOf_20 ?_
  exact R _ _ _ _ h dX8_stepOf_21
/-! X8_cross -/
set_option maxHeartbeats 4000000 in
set_option maxRecDepth 100000 in
theorem c_X8_cross (l : Launch) (G : zG) (N : Nat) (x0 : Int64) (x2 : Int64) (x4 : Int64) (x6 : Int64) (M : zMem) (Q : Int64 → zMem → Prop) (h : f_X8_cross N x0 x2 x4 x6 M Q) : zML l G yX8_cross cX8_cross 8 0 [.long x0, .long x2, .long x4, .long x6] M Q := by
  refine zEL (by decide) (Nat.le_of_ble_eq_true rfl) (lv := [(0, .long x0), (2, .long x2), (4, .long x4), (6, .long x6)]) rfl (fun X C R => ?_)
  have C : zC G X cX8_cross RX8 0 8 := C
  unfold f_X8_cross at h
  refine zr_lload_n C 0 dX8_cross_0 rfl rfl ?_
  refine zr_lload C 3 dX8_cross_1 rfl ?_
  refine zr_lmul C dX8_cross_3 ?_
  refine zr_lload_n C 1 dX8_cross_4 rfl rfl ?_
  refine zr_lload C 2 dX8_cross_5 rfl ?_
  refine zr_lmul C dX8_cross_7 ?_
  refine zr_lsub C dX8_cross_8 ?_
  exact R _ _ _ _ h dX8_cross_9
/-! X8_side -/
set_option maxHeartbeats 4000000 in
set_option maxRecDepth 100000 in
theorem c_X8_side (l : Launch) (G : zG) (N : Nat) (x1 : Int32) (x2 : Int32) (x3 : Int32) (x4 : Int32) (x5 : Int32) (M : zMem) (Q : Int64 → zMem → Prop) (h : f_X8_side N x1 x2 x3 x4 x5 M Q) : zML l G yX8_side cX8_side 10 1 [zR G 47, .int x1, .int x2, .int x3, .int x4, .int x5] M Q := by
  refine zEL (by decide) (Nat.le_of_ble_eq_true rfl) (lv := [(0, zR G 47), (1, .int x1), (2, .int x2), (3, .int x3), (4, .int x4), (5, .int x5)]) rfl (fun X C R => ?_)
  have C : zC G X cX8_side RX8 1 10 := C
  unfold f_X8_side at h
  refine zr_aload_n C 0 dX8_side_0 rfl rfl ?_
  refine zr_iload_n C 1 dX8_side_1 rfl rfl ?_
  refine zr_iload_n C 2 dX8_side_2 rfl rfl ?_
  refine zr_iconst C (v := 0) dX8_side_3 (by decide) ?_
  refine zr_iconst C (v := 0) dX8_side_4 (by decide) ?_
  refine zcI (zrunV C (rest := []) (c_X8_at X.2.1 G N _ _ _ _ _ _ h) zk_X8_at zl_X8_117 (zRc_7 zo_47) (by decide) (by decide) rfl (Nat.le_of_ble_eq_true rfl) rfl dX8_side_5) (fun r1 M2 h => ?_)
  refine zr_i2l C dX8_side_8 ?_
  refine zr_letL (fun v3 hv3 => ?_)
  have h := h v3 hv3
  refine zr_lstore C [1, 2, 3, 4, 5, 6, 0] dX8_side_9 (by decide) rfl (lv' := [(0, zR G 47), (1, .int x1), (2, .int x2), (3, .int x3), (4, .int x4), (5, .int x5), (6, .long v3)]) ?_
  refine zr_aload_n C 0 dX8_side_11 rfl rfl ?_
  refine zr_iload_n C 1 dX8_side_12 rfl rfl ?_
  refine zr_iload_n C 2 dX8_side_13 rfl rfl ?_
  refine zr_iconst C (v := 0) dX8_side_14 (by decide) ?_
  refine zr_iconst C (v := 1) dX8_side_15 (by decide) ?_
  refine zcI (zrunV C (rest := []) (c_X8_at X.2.1 G N _ _ _ _ _ _ h) zk_X8_at zl_X8_117 (zRc_7 zo_47) (by decide) (by decide) rfl (Nat.le_of_ble_eq_true rfl) rfl dX8_side_16) (fun r4 M5 h => ?_)
  refine zr_i2l C dX8_side_19 ?_
  refine zr_letL (fun v6 hv6 => ?_)
  have h := h v6 hv6
  refine zr_lstore C [1, 2, 3, 4, 5, 6, 7, 0] dX8_side_20 (by decide) rfl (lv' := [(0, zR G 47), (1, .int x1), (2, .int x2), (3, .int x3), (4, .int x4), (5, .int x5), (6, .long v3), (8, .long v6)]) ?_
  refine zr_aload_n C 0 dX8_side_22 rfl rfl ?_
  refine zr_iload_n C 1 dX8_side_23 rfl rfl ?_
  refine zr_iload_n C 2 dX8_side_24 rfl rfl ?_
  refine zr_iconst C (v := 3) dX8_side_25 (by decide) ?_
  refine zr_iconst C (v := 0) dX8_side_26 (by decide) ?_
  refine zcI (zrunV C (rest := []) (c_X8_at X.2.1 G N _ _ _ _ _ _ h) zk_X8_at zl_X8_117 (zRc_7 zo_47) (by decide) (by decide) rfl (Nat.le_of_ble_eq_true rfl) rfl dX8_side_27) (fun r7 M8 h => ?_)
  refine zr_i2l C dX8_side_30 ?_
  refine zr_lload C 6 dX8_side_31 rfl ?_
  refine zr_lsub C dX8_side_33 ?_
  refine zr_aload_n C 0 dX8_side_34 rfl rfl ?_
  refine zr_iload_n C 1 dX8_side_35 rfl rfl ?_
  refine zr_iload_n C 2 dX8_side_36 rfl rfl ?_
  refine zr_iconst C (v := 3) dX8_side_37 (by decide) ?_
  refine zr_iconst C (v := 1) dX8_side_38 (by decide) ?_
  refine zcI (zrunV C (rest := [.long ((r7.toInt64) - v3)]) (c_X8_at X.2.1 G N _ _ _ _ _ _ h) zk_X8_at zl_X8_117 (zRc_7 zo_47) (by decide) (by decide) rfl (Nat.le_of_ble_eq_true rfl) rfl dX8_side_39) (fun r9 M10 h => ?_)
  refine zr_i2l C dX8_side_42 ?_
  refine zr_lload C 7 dX8_side_43 rfl ?_
  refine zr_lsub C dX8_side_45 ?_
  refine zr_aload_n C 0 dX8_side_46 rfl rfl ?_
  refine zr_iload_n C 3 dX8_side_47 rfl rfl ?_
  refine zr_iload C 4 dX8_side_48 rfl ?_
  refine zr_iload C 5 dX8_side_50 rfl ?_
  refine zr_iconst C (v := 0) dX8_side_52 (by decide) ?_
  refine zcI (zrunV C (rest := [.long ((r9.toInt64) - v6), .long ((r7.toInt64) - v3)]) (c_X8_at X.2.1 G N _ _ _ _ _ _ h) zk_X8_at zl_X8_117 (zRc_7 zo_47) (by decide) (by decide) rfl (Nat.le_of_ble_eq_true rfl) rfl dX8_side_53) (fun r11 M12 h => ?_)
  refine zr_i2l C dX8_side_56 ?_
  refine zr_lload C 6 dX8_side_57 rfl ?_
  refine zr_lsub C dX8_side_59 ?_
  refine zr_aload_n C 0 dX8_side_60 rfl rfl ?_
  refine zr_iload_n C 3 dX8_side_61 rfl rfl ?_
  refine zr_iload C 4 dX8_side_62 rfl ?_
  refine zr_iload C 5 dX8_side_64 rfl ?_
  refine zr_iconst C (v := 1) dX8_side_66 (by decide) ?_
  refine zcI (zrunV C (rest := [.long ((r11.toInt64) - v3), .long ((r9.toInt64) - v6), .long ((r7.toInt64) - v3)]) (c_X8_at X.2.1 G N _ _ _ _ _ _ h) zk_X8_at zl_X8_117 (zRc_7 zo_47) (by decide) (by decide) rfl (Nat.le_of_ble_eq_true rfl) rfl dX8_side_67) (fun r13 M14 h => ?_)
  refine zr_i2l C dX8_side_70 ?_
  refine zr_lload C 7 dX8_side_71 rfl ?_
  refine zr_lsub C dX8_side_73 ?_
  refine zcL (zrunS C (rest := []) (c_X8_cross X.2.1 G N _ _ _ _ _ _ h) zk_X8_cross zl_X8_121 (by decide) (by decide) rfl (Nat.le_of_ble_eq_true rfl) rfl dX8_side_74) (fun r15 M16 h => ?_)
  exact R _ _ _ _ h dX8_side_77
/-! X8_bandLow -/
set_option maxHeartbeats 4000000 in
set_option maxRecDepth 100000 in
theorem w_X8_bandLow_b36 {G : zG} {X : zX} (C : zC G X cX8_bandLow RX8 2 8) (N : Nat) (Q : Int64 → zMem → Prop) (R : zRL G X cX8_bandLow Q) (x1 : Int32) (x2 : Int32) (x5 : Int32) (s0 : Int64) (k5 : Int64 → Int32 → zMem → Prop) (hk5 : ∀ (z3 : Int64) (z5 : Int32) (M : zMem), k5 z3 z5 M → zV G X M [(0, zR G 47), (1, .int x1), (2, .int x2), (3, .long z3), (5, .int z5)] [] 5) (M : zMem) (h : f_X8_bandLow_b36 N k5 x1 x2 x5 s0 M Q) : zV G X M [(0, zR G 47), (1, .int x1), (2, .int x2), (5, .int x5)] [.long s0] 36 := by
  unfold f_X8_bandLow_b36 at h
  refine zr_lstore_n C [1, 2, 3, 0, 4] dX8_bandLow_36 rfl (by decide) rfl (lv' := [(0, zR G 47), (1, .int x1), (2, .int x2), (3, .long s0), (5, .int x5)]) ?_
  obtain ⟨v3, hv3⟩ : ∃ y : Int32, y = x5 + (1 : Int32) := ⟨_, rfl⟩
  have h := h v3 hv3
  refine zr_iinc C 4 [1, 2, 3, 4, 0] dX8_bandLow_37 rfl (by rw [hv3]; rfl) (by decide) rfl (lv' := [(0, zR G 47), (1, .int x1), (2, .int x2), (3, .long s0), (5, .int v3)]) ?_
  refine zr_goto C 5 dX8_bandLow_40 (by decide) ?_
  exact hk5 _ _ _ h
set_option maxHeartbeats 4000000 in
set_option maxRecDepth 100000 in
theorem w_X8_bandLow_b5 {G : zG} {X : zX} (C : zC G X cX8_bandLow RX8 2 8) (N : Nat) (Q : Int64 → zMem → Prop) (R : zRL G X cX8_bandLow Q) (x1 : Int32) (x2 : Int32) (k5 : Int64 → Int32 → zMem → Prop) (hk5 : ∀ (z3 : Int64) (z5 : Int32) (M : zMem), k5 z3 z5 M → zV G X M [(0, zR G 47), (1, .int x1), (2, .int x2), (3, .long z3), (5, .int z5)] [] 5) (x3 : Int64) (x5 : Int32) (M : zMem) (h : f_X8_bandLow_b5 N k5 x1 x2 x3 x5 M Q) : zV G X M [(0, zR G 47), (1, .int x1), (2, .int x2), (3, .long x3), (5, .int x5)] [] 5 := by
  unfold f_X8_bandLow_b5 at h
  refine zr_iload C 4 dX8_bandLow_5 rfl ?_
  refine zr_iconst C (v := 3) dX8_bandLow_7 (by decide) ?_
  refine zr_icmp_ge C 43 dX8_bandLow_8 (by decide) (fun c => ?_) (fun c => ?_)
  · have h := h.1 c
    refine zr_lload_n C 3 dX8_bandLow_43 rfl rfl ?_
    exact R _ _ _ _ h dX8_bandLow_44
  · have h := h.2 c
    refine zr_aload_n C 0 dX8_bandLow_11 rfl rfl ?_
    refine zr_iload_n C 1 dX8_bandLow_12 rfl rfl ?_
    refine zr_iload_n C 2 dX8_bandLow_13 rfl rfl ?_
    refine zr_iload_n C 1 dX8_bandLow_14 rfl rfl ?_
    refine zr_iload_n C 2 dX8_bandLow_15 rfl rfl ?_
    refine zr_iload C 4 dX8_bandLow_16 rfl ?_
    refine zcL (zrunV C (rest := []) (c_X8_side X.2.1 G N _ _ _ _ _ _ _ h) zk_X8_side zl_X8_125 (zRc_7 zo_47) (by decide) (by decide) rfl (Nat.le_of_ble_eq_true rfl) rfl dX8_bandLow_18) (fun r1 M2 h => ?_)
    refine zr_lstore C [1, 2, 3, 4, 5, 0] dX8_bandLow_21 (by decide) rfl (lv' := [(0, zR G 47), (1, .int x1), (2, .int x2), (3, .long x3), (5, .int x5), (6, .long r1)]) ?_
    refine zr_lload C 5 dX8_bandLow_23 rfl ?_
    refine zr_lload_n C 3 dX8_bandLow_25 rfl rfl ?_
    refine zr_lcmp_ge C 35 dX8_bandLow_26 dX8_bandLow_27 (by decide) (fun c => ?_) (fun c => ?_)
    · have h := h.1 c
      refine zr_lload_n C 3 dX8_bandLow_35 rfl rfl ?_
      refine zr_sub [0, 1, 2, 4] rfl (lv' := [(0, zR G 47), (1, .int x1), (2, .int x2), (5, .int x5)]) ?_
      exact w_X8_bandLow_b36 C N Q R _ _ _ _ _ hk5 _ h
    · have h := h.2 c
      refine zr_lload C 5 dX8_bandLow_30 rfl ?_
      refine zr_goto C 36 dX8_bandLow_32 (by decide) ?_
      refine zr_sub [0, 1, 2, 4] rfl (lv' := [(0, zR G 47), (1, .int x1), (2, .int x2), (5, .int x5)]) ?_
      exact w_X8_bandLow_b36 C N Q R _ _ _ _ _ hk5 _ h
theorem w_X8_bandLow_l5 {G : zG} {X : zX} (C : zC G X cX8_bandLow RX8 2 8) (N : Nat) (Q : Int64 → zMem → Prop) (R : zRL G X cX8_bandLow Q) (x1 : Int32) (x2 : Int32) : ∀ (n : Nat) (x3 : Int64) (x5 : Int32) (M : zMem), f_X8_bandLow_l5 N x1 x2 Q n x3 x5 M → zV G X M [(0, zR G 47), (1, .int x1), (2, .int x2), (3, .long x3), (5, .int x5)] [] 5 := by
  intro n
  induction n with
  | zero => intro x3 x5 M h; exact h.elim
  | succ n ih =>
    intro x3 x5 M h
    exact w_X8_bandLow_b5 C N Q R x1 x2  _ ih x3 x5 M h
set_option maxHeartbeats 4000000 in
set_option maxRecDepth 100000 in
theorem c_X8_bandLow (l : Launch) (G : zG) (N : Nat) (x1 : Int32) (x2 : Int32) (M : zMem) (Q : Int64 → zMem → Prop) (h : f_X8_bandLow N x1 x2 M Q) : zML l G yX8_bandLow cX8_bandLow 8 2 [zR G 47, .int x1, .int x2] M Q := by
  refine zEL (by decide) (Nat.le_of_ble_eq_true rfl) (lv := [(0, zR G 47), (1, .int x1), (2, .int x2)]) rfl (fun X C R => ?_)
  have C : zC G X cX8_bandLow RX8 2 8 := C
  unfold f_X8_bandLow at h
  refine zr_lconst C (v := 0) dX8_bandLow_0 (by decide) ?_
  refine zr_lstore_n C [1, 2, 3, 0] dX8_bandLow_1 rfl (by decide) rfl (lv' := [(0, zR G 47), (1, .int x1), (2, .int x2), (3, .long (0 : Int64))]) ?_
  refine zr_iconst C (v := 1) dX8_bandLow_2 (by decide) ?_
  refine zr_istore C [1, 2, 3, 4, 0] dX8_bandLow_3 (by decide) rfl (lv' := [(0, zR G 47), (1, .int x1), (2, .int x2), (3, .long (0 : Int64)), (5, .int (1 : Int32))]) ?_
  exact w_X8_bandLow_l5 C N Q R _ _ N _ _ _ h
/-! X8_bandHigh -/
set_option maxHeartbeats 4000000 in
set_option maxRecDepth 100000 in
theorem w_X8_bandHigh_b36 {G : zG} {X : zX} (C : zC G X cX8_bandHigh RX8 2 8) (N : Nat) (Q : Int64 → zMem → Prop) (R : zRL G X cX8_bandHigh Q) (x1 : Int32) (x2 : Int32) (x5 : Int32) (s0 : Int64) (k5 : Int64 → Int32 → zMem → Prop) (hk5 : ∀ (z3 : Int64) (z5 : Int32) (M : zMem), k5 z3 z5 M → zV G X M [(0, zR G 47), (1, .int x1), (2, .int x2), (3, .long z3), (5, .int z5)] [] 5) (M : zMem) (h : f_X8_bandHigh_b36 N k5 x1 x2 x5 s0 M Q) : zV G X M [(0, zR G 47), (1, .int x1), (2, .int x2), (5, .int x5)] [.long s0] 36 := by
  unfold f_X8_bandHigh_b36 at h
  refine zr_lstore_n C [1, 2, 3, 0, 4] dX8_bandHigh_36 rfl (by decide) rfl (lv' := [(0, zR G 47), (1, .int x1), (2, .int x2), (3, .long s0), (5, .int x5)]) ?_
  obtain ⟨v3, hv3⟩ : ∃ y : Int32, y = x5 + (1 : Int32) := ⟨_, rfl⟩
  have h := h v3 hv3
  refine zr_iinc C 4 [1, 2, 3, 4, 0] dX8_bandHigh_37 rfl (by rw [hv3]; rfl) (by decide) rfl (lv' := [(0, zR G 47), (1, .int x1), (2, .int x2), (3, .long s0), (5, .int v3)]) ?_
  refine zr_goto C 5 dX8_bandHigh_40 (by decide) ?_
  exact hk5 _ _ _ h
set_option maxHeartbeats 4000000 in
set_option maxRecDepth 100000 in
theorem w_X8_bandHigh_b5 {G : zG} {X : zX} (C : zC G X cX8_bandHigh RX8 2 8) (N : Nat) (Q : Int64 → zMem → Prop) (R : zRL G X cX8_bandHigh Q) (x1 : Int32) (x2 : Int32) (k5 : Int64 → Int32 → zMem → Prop) (hk5 : ∀ (z3 : Int64) (z5 : Int32) (M : zMem), k5 z3 z5 M → zV G X M [(0, zR G 47), (1, .int x1), (2, .int x2), (3, .long z3), (5, .int z5)] [] 5) (x3 : Int64) (x5 : Int32) (M : zMem) (h : f_X8_bandHigh_b5 N k5 x1 x2 x3 x5 M Q) : zV G X M [(0, zR G 47), (1, .int x1), (2, .int x2), (3, .long x3), (5, .int x5)] [] 5 := by
  unfold f_X8_bandHigh_b5 at h
  refine zr_iload C 4 dX8_bandHigh_5 rfl ?_
  refine zr_iconst C (v := 3) dX8_bandHigh_7 (by decide) ?_
  refine zr_icmp_ge C 43 dX8_bandHigh_8 (by decide) (fun c => ?_) (fun c => ?_)
  · have h := h.1 c
    refine zr_lload_n C 3 dX8_bandHigh_43 rfl rfl ?_
    exact R _ _ _ _ h dX8_bandHigh_44
  · have h := h.2 c
    refine zr_aload_n C 0 dX8_bandHigh_11 rfl rfl ?_
    refine zr_iload_n C 1 dX8_bandHigh_12 rfl rfl ?_
    refine zr_iload_n C 2 dX8_bandHigh_13 rfl rfl ?_
    refine zr_iload_n C 1 dX8_bandHigh_14 rfl rfl ?_
    refine zr_iload_n C 2 dX8_bandHigh_15 rfl rfl ?_
    refine zr_iload C 4 dX8_bandHigh_16 rfl ?_
    refine zcL (zrunV C (rest := []) (c_X8_side X.2.1 G N _ _ _ _ _ _ _ h) zk_X8_side zl_X8_125 (zRc_7 zo_47) (by decide) (by decide) rfl (Nat.le_of_ble_eq_true rfl) rfl dX8_bandHigh_18) (fun r1 M2 h => ?_)
    refine zr_lstore C [1, 2, 3, 4, 5, 0] dX8_bandHigh_21 (by decide) rfl (lv' := [(0, zR G 47), (1, .int x1), (2, .int x2), (3, .long x3), (5, .int x5), (6, .long r1)]) ?_
    refine zr_lload C 5 dX8_bandHigh_23 rfl ?_
    refine zr_lload_n C 3 dX8_bandHigh_25 rfl rfl ?_
    refine zr_lcmp_le C 35 dX8_bandHigh_26 dX8_bandHigh_27 (by decide) (fun c => ?_) (fun c => ?_)
    · have h := h.1 c
      refine zr_lload_n C 3 dX8_bandHigh_35 rfl rfl ?_
      refine zr_sub [0, 1, 2, 4] rfl (lv' := [(0, zR G 47), (1, .int x1), (2, .int x2), (5, .int x5)]) ?_
      exact w_X8_bandHigh_b36 C N Q R _ _ _ _ _ hk5 _ h
    · have h := h.2 c
      refine zr_lload C 5 dX8_bandHigh_30 rfl ?_
      refine zr_goto C 36 dX8_bandHigh_32 (by decide) ?_
      refine zr_sub [0, 1, 2, 4] rfl (lv' := [(0, zR G 47), (1, .int x1), (2, .int x2), (5, .int x5)]) ?_
      exact w_X8_bandHigh_b36 C N Q R _ _ _ _ _ hk5 _ h
theorem w_X8_bandHigh_l5 {G : zG} {X : zX} (C : zC G X cX8_bandHigh RX8 2 8) (N : Nat) (Q : Int64 → zMem → Prop) (R : zRL G X cX8_bandHigh Q) (x1 : Int32) (x2 : Int32) : ∀ (n : Nat) (x3 : Int64) (x5 : Int32) (M : zMem), f_X8_bandHigh_l5 N x1 x2 Q n x3 x5 M → zV G X M [(0, zR G 47), (1, .int x1), (2, .int x2), (3, .long x3), (5, .int x5)] [] 5 := by
  intro n
  induction n with
  | zero => intro x3 x5 M h; exact h.elim
  | succ n ih =>
    intro x3 x5 M h
    exact w_X8_bandHigh_b5 C N Q R x1 x2  _ ih x3 x5 M h
set_option maxHeartbeats 4000000 in
set_option maxRecDepth 100000 in
theorem c_X8_bandHigh (l : Launch) (G : zG) (N : Nat) (x1 : Int32) (x2 : Int32) (M : zMem) (Q : Int64 → zMem → Prop) (h : f_X8_bandHigh N x1 x2 M Q) : zML l G yX8_bandHigh cX8_bandHigh 8 2 [zR G 47, .int x1, .int x2] M Q := by
  refine zEL (by decide) (Nat.le_of_ble_eq_true rfl) (lv := [(0, zR G 47), (1, .int x1), (2, .int x2)]) rfl (fun X C R => ?_)
  have C : zC G X cX8_bandHigh RX8 2 8 := C
  unfold f_X8_bandHigh at h
  refine zr_lconst C (v := 0) dX8_bandHigh_0 (by decide) ?_
  refine zr_lstore_n C [1, 2, 3, 0] dX8_bandHigh_1 rfl (by decide) rfl (lv' := [(0, zR G 47), (1, .int x1), (2, .int x2), (3, .long (0 : Int64))]) ?_
  refine zr_iconst C (v := 1) dX8_bandHigh_2 (by decide) ?_
  refine zr_istore C [1, 2, 3, 4, 0] dX8_bandHigh_3 (by decide) rfl (lv' := [(0, zR G 47), (1, .int x1), (2, .int x2), (3, .long (0 : Int64)), (5, .int (1 : Int32))]) ?_
  exact w_X8_bandHigh_l5 C N Q R _ _ N _ _ _ h
