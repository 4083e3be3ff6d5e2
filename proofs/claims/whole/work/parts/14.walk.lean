/-! X8_meet -/
set_option maxHeartbeats 4000000 in
set_option maxRecDepth 100000 in
theorem w_X8_meet_b20 {G : zG} {X : zX} (C : zC G X cX8_meet RX8 7 3) (N : Nat) (Q : Int32 → zMem → Prop) (R : zRZ G X cX8_meet Q) (x1 : Int32) (x2 : Int32) (k20 : zMem → Prop) (hk20 : ∀  (M : zMem), k20  M → zV G X M [(0, zR G 47), (1, .int x1), (2, .int x2)] [] 20) (M : zMem) (h : f_X8_meet_b20 N k20 x1 x2 M Q) : zV G X M [(0, zR G 47), (1, .int x1), (2, .int x2)] [] 20 := by
  unfold f_X8_meet_b20 at h
  refine zr_aload_n C 0 dX8_meet_20 rfl rfl ?_
  refine zg_X8_195 C zo_47 dX8_meet_21 ?_
  refine zr_if_le C 66 dX8_meet_24 (by decide) (fun c => ?_) (fun c => ?_)
  · have h := h.1 c
    refine zr_aload_n C 0 dX8_meet_66 rfl rfl ?_
    refine zcU (zrunV C (rest := []) (c_X8_laysSpots X.2.1 G N  _ _ h) zk_X8_laysSpots zl_X8_214 (zRc_7 zo_47) (by decide) (by decide) rfl (Nat.le_of_ble_eq_true rfl) rfl dX8_meet_67) (fun M8 h => ?_)
    refine zr_iconst C (v := 1) dX8_meet_70 (by decide) ?_
    exact R _ _ _ _ zb_1.1 h dX8_meet_71
  · have h := h.2 c
    refine zr_aload_n C 0 dX8_meet_27 rfl rfl ?_
    refine zr_dup C rfl dX8_meet_28 ?_
    refine zg_X8_195 C zo_47 dX8_meet_29 ?_
    refine zr_iconst C (v := 1) dX8_meet_32 (by decide) ?_
    refine zr_isub C dX8_meet_33 ?_
    refine zp_X8_195 C zo_47 dX8_meet_34 ?_
    refine zr_letM (fun M9 hM9 => ?_)
    have h := h M9 hM9
    refine zr_aload_n C 0 dX8_meet_37 rfl rfl ?_
    refine zr_iload_n C 1 dX8_meet_38 rfl rfl ?_
    refine zr_aload_n C 0 dX8_meet_39 rfl rfl ?_
    refine zg_X8_50 C zo_47 dX8_meet_40 ?_
    refine zr_aload_n C 0 dX8_meet_43 rfl rfl ?_
    refine zg_X8_195 C zo_47 dX8_meet_44 ?_
    refine zr_iald C za_61 h.1 dX8_meet_47 ?_
    have h := h.2
    refine zr_iload_n C 2 dX8_meet_48 rfl rfl ?_
    refine zr_aload_n C 0 dX8_meet_49 rfl rfl ?_
    refine zg_X8_53 C zo_47 dX8_meet_50 ?_
    refine zr_aload_n C 0 dX8_meet_53 rfl rfl ?_
    refine zg_X8_195 C zo_47 dX8_meet_54 ?_
    refine zr_iald C za_62 h.1 dX8_meet_57 ?_
    have h := h.2
    refine zcI (zrunV C (rest := []) (c_X8_isTooMany X.2.1 G N _ _ _ _ _ _ h) zk_X8_isTooMany zl_X8_211 (zRc_7 zo_47) (by decide) (by decide) rfl (Nat.le_of_ble_eq_true rfl) rfl dX8_meet_58) (fun r10 M11 h => ?_)
    refine zr_if_eq C 20 dX8_meet_61 (by decide) (fun c => ?_) (fun c => ?_)
    · have h := h.1 c
      exact hk20  _ h
    · have h := h.2 c
      refine zr_iconst C (v := 0) dX8_meet_64 (by decide) ?_
      exact R _ _ _ _ zb_0.1 h dX8_meet_65
theorem w_X8_meet_l20 {G : zG} {X : zX} (C : zC G X cX8_meet RX8 7 3) (N : Nat) (Q : Int32 → zMem → Prop) (R : zRZ G X cX8_meet Q) (x1 : Int32) (x2 : Int32) : ∀ (n : Nat)  (M : zMem), f_X8_meet_l20 N x1 x2 Q n  M → zV G X M [(0, zR G 47), (1, .int x1), (2, .int x2)] [] 20 := by
  intro n
  induction n with
  | zero => intro  M h; exact h.elim
  | succ n ih =>
    intro  M h
    exact w_X8_meet_b20 C N Q R x1 x2  _ ih  M h
set_option maxHeartbeats 4000000 in
set_option maxRecDepth 100000 in
theorem c_X8_meet (l : Launch) (G : zG) (N : Nat) (x1 : Int32) (x2 : Int32) (M : zMem) (Q : Int32 → zMem → Prop) (h : f_X8_meet N x1 x2 M Q) : zMI l G yX8_meet cX8_meet 3 .boolean 7 [zR G 47, .int x1, .int x2] M Q := by
  refine zEZ (by decide) (Nat.le_of_ble_eq_true rfl) (lv := [(0, zR G 47), (1, .int x1), (2, .int x2)]) rfl (fun X C R => ?_)
  have C : zC G X cX8_meet RX8 7 3 := C
  unfold f_X8_meet at h
  refine zr_aload_n C 0 dX8_meet_0 rfl rfl ?_
  refine zcU (zrunV C (rest := []) (c_X8_lays X.2.1 G N  _ _ h) zk_X8_lays zl_X8_167 (zRc_7 zo_47) (by decide) (by decide) rfl (Nat.le_of_ble_eq_true rfl) rfl dX8_meet_1) (fun M2 h => ?_)
  refine zr_aload_n C 0 dX8_meet_4 rfl rfl ?_
  refine zr_iconst C (v := 0) dX8_meet_5 (by decide) ?_
  refine zp_X8_202 C zo_47 dX8_meet_6 ?_
  refine zr_letM (fun M3 hM3 => ?_)
  have h := h M3 hM3
  refine zr_aload_n C 0 dX8_meet_9 rfl rfl ?_
  refine zr_iconst C (v := 0) dX8_meet_10 (by decide) ?_
  refine zp_X8_195 C zo_47 dX8_meet_11 ?_
  refine zr_letM (fun M4 hM4 => ?_)
  have h := h M4 hM4
  refine zr_aload_n C 0 dX8_meet_14 rfl rfl ?_
  refine zr_iconst C (v := 1) dX8_meet_15 (by decide) ?_
  refine zr_iconst C (v := 1) dX8_meet_16 (by decide) ?_
  refine zcU (zrunV C (rest := []) (c_X8_waits X.2.1 G N _ _ _ _ h) zk_X8_waits zl_X8_198 (zRc_7 zo_47) (by decide) (by decide) rfl (Nat.le_of_ble_eq_true rfl) rfl dX8_meet_17) (fun M6 h => ?_)
  exact w_X8_meet_l20 C N Q R _ _ N  _ h
/-! X8_meets -/
set_option maxHeartbeats 4000000 in
set_option maxRecDepth 100000 in
theorem w_X8_meets_b69 {G : zG} {X : zX} (C : zC G X cX8_meets RX8 8 6) (N : Nat) (Q : Int32 → zMem → Prop) (R : zRI G X cX8_meets Q) (x3 : Int32) (x5 : Int32) (s0 : Int32) (s1 : Int32) (k43 : Int32 → Int32 → zMem → Prop) (hk43 : ∀ (z4 : Int32) (z5 : Int32) (M : zMem), k43 z4 z5 M → zV G X M [(0, zR G 47), (3, .int x3), (4, .int z4), (5, .int z5)] [] 43) (M : zMem) (h : f_X8_meets_b69 N k43 x3 x5 s0 s1 M Q) : zV G X M [(0, zR G 47), (3, .int x3), (5, .int x5)] [.int s1, .int s0] 69 := by
  unfold f_X8_meets_b69 at h
  refine zr_iadd C dX8_meets_69 ?_
  refine zr_letI (fun v8 hv8 => ?_)
  have h := h v8 hv8
  refine zr_istore C [1, 2, 0, 3] dX8_meets_70 (by decide) rfl (lv' := [(0, zR G 47), (3, .int x3), (4, .int v8), (5, .int x5)]) ?_
  obtain ⟨v9, hv9⟩ : ∃ y : Int32, y = x5 + (1 : Int32) := ⟨_, rfl⟩
  have h := h v9 hv9
  refine zr_iinc C 3 [1, 2, 3, 0] dX8_meets_72 rfl (by rw [hv9]; rfl) (by decide) rfl (lv' := [(0, zR G 47), (3, .int x3), (4, .int v8), (5, .int v9)]) ?_
  refine zr_goto C 43 dX8_meets_75 (by decide) ?_
  exact hk43 _ _ _ h
set_option maxHeartbeats 4000000 in
set_option maxRecDepth 100000 in
theorem w_X8_meets_b43 {G : zG} {X : zX} (C : zC G X cX8_meets RX8 8 6) (N : Nat) (Q : Int32 → zMem → Prop) (R : zRI G X cX8_meets Q) (x3 : Int32) (k43 : Int32 → Int32 → zMem → Prop) (hk43 : ∀ (z4 : Int32) (z5 : Int32) (M : zMem), k43 z4 z5 M → zV G X M [(0, zR G 47), (3, .int x3), (4, .int z4), (5, .int z5)] [] 43) (x4 : Int32) (x5 : Int32) (M : zMem) (h : f_X8_meets_b43 N k43 x3 x4 x5 M Q) : zV G X M [(0, zR G 47), (3, .int x3), (4, .int x4), (5, .int x5)] [] 43 := by
  unfold f_X8_meets_b43 at h
  refine zr_iload C 3 dX8_meets_43 rfl ?_
  refine zr_aload_n C 0 dX8_meets_45 rfl rfl ?_
  refine zg_X8_202 C zo_47 dX8_meets_46 ?_
  refine zr_icmp_ge C 78 dX8_meets_49 (by decide) (fun c => ?_) (fun c => ?_)
  · have h := h.1 c
    refine zr_iload_n C 1 dX8_meets_78 rfl rfl ?_
    refine zr_if_ne C 87 dX8_meets_79 (by decide) (fun c => ?_) (fun c => ?_)
    · have h := h.1 c
      refine zr_iload_n C 1 dX8_meets_87 rfl rfl ?_
      refine zr_iconst C (v := 1) dX8_meets_88 (by decide) ?_
      refine zr_icmp_ne C 102 dX8_meets_89 (by decide) (fun c => ?_) (fun c => ?_)
      · have h := h.1 c
        refine zr_aload_n C 0 dX8_meets_102 rfl rfl ?_
        refine zg_X8_208 C zo_47 dX8_meets_103 ?_
        exact R _ _ _ _ h dX8_meets_106
      · have h := h.2 c
        refine zr_aload_n C 0 dX8_meets_92 rfl rfl ?_
        refine zg_X8_202 C zo_47 dX8_meets_93 ?_
        refine zr_iload C 2 dX8_meets_96 rfl ?_
        refine zr_isub C dX8_meets_98 ?_
        refine zr_goto C 106 dX8_meets_99 (by decide) ?_
        exact R _ _ _ _ h dX8_meets_106
    · have h := h.2 c
      refine zr_iload C 2 dX8_meets_82 rfl ?_
      refine zr_goto C 106 dX8_meets_84 (by decide) ?_
      exact R _ _ _ _ h dX8_meets_106
  · have h := h.2 c
    refine zr_iload C 2 dX8_meets_52 rfl ?_
    refine zr_aload_n C 0 dX8_meets_54 rfl rfl ?_
    refine zg_X8_44 C zo_47 dX8_meets_55 ?_
    refine zr_iload C 3 dX8_meets_58 rfl ?_
    refine zr_zald C za_59 h.1 dX8_meets_60 ?_
    have h := h.2
    refine zr_if_eq C 68 dX8_meets_61 (by decide) (fun c => ?_) (fun c => ?_)
    · have h := h.1 c
      refine zr_iconst C (v := 0) dX8_meets_68 (by decide) ?_
      refine zr_sub [0, 1, 3] rfl (lv' := [(0, zR G 47), (3, .int x3), (5, .int x5)]) ?_
      exact w_X8_meets_b69 C N Q R _ _ _ _ _ hk43 _ h
    · have h := h.2 c
      refine zr_iconst C (v := 1) dX8_meets_64 (by decide) ?_
      refine zr_goto C 69 dX8_meets_65 (by decide) ?_
      refine zr_sub [0, 1, 3] rfl (lv' := [(0, zR G 47), (3, .int x3), (5, .int x5)]) ?_
      exact w_X8_meets_b69 C N Q R _ _ _ _ _ hk43 _ h
theorem w_X8_meets_l43 {G : zG} {X : zX} (C : zC G X cX8_meets RX8 8 6) (N : Nat) (Q : Int32 → zMem → Prop) (R : zRI G X cX8_meets Q) (x3 : Int32) : ∀ (n : Nat) (x4 : Int32) (x5 : Int32) (M : zMem), f_X8_meets_l43 N x3 Q n x4 x5 M → zV G X M [(0, zR G 47), (3, .int x3), (4, .int x4), (5, .int x5)] [] 43 := by
  intro n
  induction n with
  | zero => intro x4 x5 M h; exact h.elim
  | succ n ih =>
    intro x4 x5 M h
    exact w_X8_meets_b43 C N Q R x3  _ ih x4 x5 M h
set_option maxHeartbeats 4000000 in
set_option maxRecDepth 100000 in
theorem c_X8_meets (l : Launch) (G : zG) (N : Nat) (x1 : Int32) (x2 : Int32) (x3 : Int32) (M : zMem) (Q : Int32 → zMem → Prop) (h : f_X8_meets N x1 x2 x3 M Q) : zMI l G yX8_meets cX8_meets 6 .int 8 [zR G 47, .int x1, .int x2, .int x3] M Q := by
  refine zEI (by decide) (Nat.le_of_ble_eq_true rfl) (lv := [(0, zR G 47), (1, .int x1), (2, .int x2), (3, .int x3)]) rfl (fun X C R => ?_)
  have C : zC G X cX8_meets RX8 8 6 := C
  unfold f_X8_meets at h
  refine zr_aload_n C 0 dX8_meets_0 rfl rfl ?_
  refine zr_iconst C (v := 0) dX8_meets_1 (by decide) ?_
  refine zp_X8_60 C zo_47 dX8_meets_2 ?_
  refine zr_letM (fun M1 hM1 => ?_)
  have h := h M1 hM1
  refine zr_aload_n C 0 dX8_meets_5 rfl rfl ?_
  refine zr_iload_n C 1 dX8_meets_6 rfl rfl ?_
  refine zr_iload_n C 2 dX8_meets_7 rfl rfl ?_
  refine zcI (zrunV C (rest := []) (c_X8_arePair X.2.1 G N _ _ _ _ h) zk_X8_arePair zl_X8_170 (zRc_7 zo_47) (by decide) (by decide) rfl (Nat.le_of_ble_eq_true rfl) rfl dX8_meets_8) (fun r2 M3 h => ?_)
  refine zr_if_eq C 23 dX8_meets_11 (by decide) (fun c => ?_) (fun c => ?_)
  · have h := h.1 c
    refine zr_iconst C (v := -1) dX8_meets_23 (by decide) ?_
    exact R _ _ _ _ h dX8_meets_24
  · have h := h.2 c
    refine zr_iload_n C 3 dX8_meets_14 rfl rfl ?_
    refine zr_iconst C (v := 0) dX8_meets_15 (by decide) ?_
    refine zr_iconst C (v := 2) dX8_meets_16 (by decide) ?_
    refine zcI (zrunS C (rest := []) (c_X8_in X.2.1 G N _ _ _ _ _ h) zk_X8_in zl_X8_63 (by decide) (by decide) rfl (Nat.le_of_ble_eq_true rfl) rfl dX8_meets_17) (fun r4 M5 h => ?_)
    refine zr_if_ne C 25 dX8_meets_20 (by decide) (fun c => ?_) (fun c => ?_)
    · have h := h.1 c
      refine zr_aload_n C 0 dX8_meets_25 rfl rfl ?_
      refine zr_iload_n C 1 dX8_meets_26 rfl rfl ?_
      refine zr_iload_n C 2 dX8_meets_27 rfl rfl ?_
      refine zcI (zrunV C (rest := []) (c_X8_meet X.2.1 G N _ _ _ _ h) zk_X8_meet zl_X8_217 (zRc_7 zo_47) (by decide) (by decide) rfl (Nat.le_of_ble_eq_true rfl) rfl dX8_meets_28) (fun r6 M7 h => ?_)
      refine zr_if_ne C 37 dX8_meets_31 (by decide) (fun c => ?_) (fun c => ?_)
      · have h := h.1 c
        refine zr_iconst C (v := 0) dX8_meets_37 (by decide) ?_
        refine zr_istore C [1, 4, 0] dX8_meets_38 (by decide) rfl (lv' := [(0, zR G 47), (3, .int x3), (4, .int (0 : Int32))]) ?_
        refine zr_iconst C (v := 0) dX8_meets_40 (by decide) ?_
        refine zr_istore C [1, 2, 3, 0] dX8_meets_41 (by decide) rfl (lv' := [(0, zR G 47), (3, .int x3), (4, .int (0 : Int32)), (5, .int (0 : Int32))]) ?_
        exact w_X8_meets_l43 C N Q R _ N _ _ _ h
      · have h := h.2 c
        refine zr_bipush C (v := -4) dX8_meets_34 (by decide) ?_
        exact R _ _ _ _ h dX8_meets_36
    · have h := h.2 c
      refine zr_iconst C (v := -1) dX8_meets_23 (by decide) ?_
      exact R _ _ _ _ h dX8_meets_24
/-! X8_meeting -/
set_option maxHeartbeats 4000000 in
set_option maxRecDepth 100000 in
theorem c_X8_meeting (l : Launch) (G : zG) (N : Nat) (x1 : Int32) (x2 : Int32) (x3 : Int32) (x4 : Int32) (M : zMem) (Q : Int32 → zMem → Prop) (h : f_X8_meeting N x1 x2 x3 x4 M Q) : zMI l G yX8_meeting cX8_meeting 5 .int 8 [zR G 47, .int x1, .int x2, .int x3, .int x4] M Q := by
  refine zEI (by decide) (Nat.le_of_ble_eq_true rfl) (lv := [(0, zR G 47), (1, .int x1), (2, .int x2), (3, .int x3), (4, .int x4)]) rfl (fun X C R => ?_)
  have C : zC G X cX8_meeting RX8 8 5 := C
  unfold f_X8_meeting at h
  refine zr_aload_n C 0 dX8_meeting_0 rfl rfl ?_
  refine zr_iconst C (v := 0) dX8_meeting_1 (by decide) ?_
  refine zp_X8_60 C zo_47 dX8_meeting_2 ?_
  refine zr_letM (fun M1 hM1 => ?_)
  have h := h M1 hM1
  refine zr_aload_n C 0 dX8_meeting_5 rfl rfl ?_
  refine zr_iload_n C 1 dX8_meeting_6 rfl rfl ?_
  refine zr_iload_n C 2 dX8_meeting_7 rfl rfl ?_
  refine zcI (zrunV C (rest := []) (c_X8_arePair X.2.1 G N _ _ _ _ h) zk_X8_arePair zl_X8_170 (zRc_7 zo_47) (by decide) (by decide) rfl (Nat.le_of_ble_eq_true rfl) rfl dX8_meeting_8) (fun r2 M3 h => ?_)
  refine zr_if_eq C 28 dX8_meeting_11 (by decide) (fun c => ?_) (fun c => ?_)
  · have h := h.1 c
    refine zr_iconst C (v := -1) dX8_meeting_28 (by decide) ?_
    exact R _ _ _ _ h dX8_meeting_29
  · have h := h.2 c
    refine zr_iload_n C 3 dX8_meeting_14 rfl rfl ?_
    refine zr_if_lt C 28 dX8_meeting_15 (by decide) (fun c => ?_) (fun c => ?_)
    · have h := h.1 c
      refine zr_iconst C (v := -1) dX8_meeting_28 (by decide) ?_
      exact R _ _ _ _ h dX8_meeting_29
    · have h := h.2 c
      refine zr_iload C 4 dX8_meeting_18 rfl ?_
      refine zr_iconst C (v := 0) dX8_meeting_20 (by decide) ?_
      refine zr_iconst C (v := 2) dX8_meeting_21 (by decide) ?_
      refine zcI (zrunS C (rest := []) (c_X8_in X.2.1 G N _ _ _ _ _ h) zk_X8_in zl_X8_63 (by decide) (by decide) rfl (Nat.le_of_ble_eq_true rfl) rfl dX8_meeting_22) (fun r4 M5 h => ?_)
      refine zr_if_ne C 30 dX8_meeting_25 (by decide) (fun c => ?_) (fun c => ?_)
      · have h := h.1 c
        refine zr_aload_n C 0 dX8_meeting_30 rfl rfl ?_
        refine zr_iload_n C 1 dX8_meeting_31 rfl rfl ?_
        refine zr_iload_n C 2 dX8_meeting_32 rfl rfl ?_
        refine zcI (zrunV C (rest := []) (c_X8_meet X.2.1 G N _ _ _ _ h) zk_X8_meet zl_X8_217 (zRc_7 zo_47) (by decide) (by decide) rfl (Nat.le_of_ble_eq_true rfl) rfl dX8_meeting_33) (fun r6 M7 h => ?_)
        refine zr_if_ne C 42 dX8_meeting_36 (by decide) (fun c => ?_) (fun c => ?_)
        · have h := h.1 c
          refine zr_iload_n C 3 dX8_meeting_42 rfl rfl ?_
          refine zr_aload_n C 0 dX8_meeting_43 rfl rfl ?_
          refine zg_X8_202 C zo_47 dX8_meeting_44 ?_
          refine zr_icmp_lt C 55 dX8_meeting_47 (by decide) (fun c => ?_) (fun c => ?_)
          · have h := h.1 c
            refine zr_iload C 4 dX8_meeting_55 rfl ?_
            refine zr_if_ne C 69 dX8_meeting_57 (by decide) (fun c => ?_) (fun c => ?_)
            · have h := h.1 c
              refine zr_iload C 4 dX8_meeting_69 rfl ?_
              refine zr_iconst C (v := 1) dX8_meeting_71 (by decide) ?_
              refine zr_icmp_ne C 84 dX8_meeting_72 (by decide) (fun c => ?_) (fun c => ?_)
              · have h := h.1 c
                refine zr_aload_n C 0 dX8_meeting_84 rfl rfl ?_
                refine zg_X8_47 C zo_47 dX8_meeting_85 ?_
                refine zr_iload_n C 3 dX8_meeting_88 rfl rfl ?_
                refine zr_iald C za_60 h.1 dX8_meeting_89 ?_
                have h := h.2
                exact R _ _ _ _ h dX8_meeting_90
              · have h := h.2 c
                refine zr_aload_n C 0 dX8_meeting_75 rfl rfl ?_
                refine zg_X8_41 C zo_47 dX8_meeting_76 ?_
                refine zr_iload_n C 3 dX8_meeting_79 rfl rfl ?_
                refine zr_iald C za_58 h.1 dX8_meeting_80 ?_
                have h := h.2
                refine zr_goto C 90 dX8_meeting_81 (by decide) ?_
                exact R _ _ _ _ h dX8_meeting_90
            · have h := h.2 c
              refine zr_aload_n C 0 dX8_meeting_60 rfl rfl ?_
              refine zg_X8_38 C zo_47 dX8_meeting_61 ?_
              refine zr_iload_n C 3 dX8_meeting_64 rfl rfl ?_
              refine zr_iald C za_57 h.1 dX8_meeting_65 ?_
              have h := h.2
              refine zr_goto C 90 dX8_meeting_66 (by decide) ?_
              exact R _ _ _ _ h dX8_meeting_90
          · have h := h.2 c
            refine zr_bipush C (v := -9) dX8_meeting_50 (by decide) ?_
            refine zr_goto C 90 dX8_meeting_52 (by decide) ?_
            exact R _ _ _ _ h dX8_meeting_90
        · have h := h.2 c
          refine zr_bipush C (v := -4) dX8_meeting_39 (by decide) ?_
          exact R _ _ _ _ h dX8_meeting_41
      · have h := h.2 c
        refine zr_iconst C (v := -1) dX8_meeting_28 (by decide) ?_
        exact R _ _ _ _ h dX8_meeting_29
/-! X8_kindOf -/
set_option maxHeartbeats 4000000 in
set_option maxRecDepth 100000 in
theorem w_X8_kindOf_b99 {G : zG} {X : zX} (C : zC G X cX8_kindOf RX8 3 10) (N : Nat) (Q : Int32 → zMem → Prop) (R : zRI G X cX8_kindOf Q) (x1 : Int32) (x2 : Int32) (x3 : Int32) (x4 : Int32) (x5 : Int32) (x6 : Int32) (x7 : Int32) (x8 : Int32) (k15 : Int32 → Int32 → Int32 → Int32 → Int32 → zMem → Prop) (hk15 : ∀ (z4 : Int32) (z5 : Int32) (z6 : Int32) (z7 : Int32) (z8 : Int32) (M : zMem), k15 z4 z5 z6 z7 z8 M → zV G X M [(0, zR G 47), (1, .int x1), (2, .int x2), (3, .int x3), (4, .int z4), (5, .int z5), (6, .int z6), (7, .int z7), (8, .int z8)] [] 15) (M : zMem) (h : f_X8_kindOf_b99 N k15 x1 x2 x3 x4 x5 x6 x7 x8 M Q) : zV G X M [(0, zR G 47), (1, .int x1), (2, .int x2), (3, .int x3), (4, .int x4), (5, .int x5), (6, .int x6), (7, .int x7), (8, .int x8)] [] 99 := by
  unfold f_X8_kindOf_b99 at h
  obtain ⟨v1, hv1⟩ : ∃ y : Int32, y = x8 + (1 : Int32) := ⟨_, rfl⟩
  have h := h v1 hv1
  refine zr_iinc C 8 [1, 2, 3, 4, 5, 6, 7, 8, 0] dX8_kindOf_99 rfl (by rw [hv1]; rfl) (by decide) rfl (lv' := [(0, zR G 47), (1, .int x1), (2, .int x2), (3, .int x3), (4, .int x4), (5, .int x5), (6, .int x6), (7, .int x7), (8, .int v1)]) ?_
  refine zr_goto C 15 dX8_kindOf_102 (by decide) ?_
  exact hk15 _ _ _ _ _ _ h
set_option maxHeartbeats 4000000 in
set_option maxRecDepth 100000 in
theorem w_X8_kindOf_b96 {G : zG} {X : zX} (C : zC G X cX8_kindOf RX8 3 10) (N : Nat) (Q : Int32 → zMem → Prop) (R : zRI G X cX8_kindOf Q) (x1 : Int32) (x2 : Int32) (x3 : Int32) (x4 : Int32) (x5 : Int32) (x7 : Int32) (x8 : Int32) (s0 : Int32) (s1 : Int32) (k15 : Int32 → Int32 → Int32 → Int32 → Int32 → zMem → Prop) (hk15 : ∀ (z4 : Int32) (z5 : Int32) (z6 : Int32) (z7 : Int32) (z8 : Int32) (M : zMem), k15 z4 z5 z6 z7 z8 M → zV G X M [(0, zR G 47), (1, .int x1), (2, .int x2), (3, .int x3), (4, .int z4), (5, .int z5), (6, .int z6), (7, .int z7), (8, .int z8)] [] 15) (M : zMem) (h : f_X8_kindOf_b96 N k15 x1 x2 x3 x4 x5 x7 x8 s0 s1 M Q) : zV G X M [(0, zR G 47), (1, .int x1), (2, .int x2), (3, .int x3), (4, .int x4), (5, .int x5), (7, .int x7), (8, .int x8)] [.int s1, .int s0] 96 := by
  unfold f_X8_kindOf_b96 at h
  refine zr_iadd C dX8_kindOf_96 ?_
  refine zr_letI (fun v7 hv7 => ?_)
  have h := h v7 hv7
  refine zr_istore C [1, 2, 3, 4, 5, 6, 0, 7, 8] dX8_kindOf_97 (by decide) rfl (lv' := [(0, zR G 47), (1, .int x1), (2, .int x2), (3, .int x3), (4, .int x4), (5, .int x5), (6, .int v7), (7, .int x7), (8, .int x8)]) ?_
  exact w_X8_kindOf_b99 C N Q R _ _ _ _ _ _ _ _ _ hk15 _ h
set_option maxHeartbeats 4000000 in
set_option maxRecDepth 100000 in
theorem w_X8_kindOf_b81 {G : zG} {X : zX} (C : zC G X cX8_kindOf RX8 3 10) (N : Nat) (Q : Int32 → zMem → Prop) (R : zRI G X cX8_kindOf Q) (x1 : Int32) (x2 : Int32) (x3 : Int32) (x4 : Int32) (x6 : Int32) (x7 : Int32) (x8 : Int32) (x9 : Int32) (s0 : Int32) (s1 : Int32) (k15 : Int32 → Int32 → Int32 → Int32 → Int32 → zMem → Prop) (hk15 : ∀ (z4 : Int32) (z5 : Int32) (z6 : Int32) (z7 : Int32) (z8 : Int32) (M : zMem), k15 z4 z5 z6 z7 z8 M → zV G X M [(0, zR G 47), (1, .int x1), (2, .int x2), (3, .int x3), (4, .int z4), (5, .int z5), (6, .int z6), (7, .int z7), (8, .int z8)] [] 15) (M : zMem) (h : f_X8_kindOf_b81 N k15 x1 x2 x3 x4 x6 x7 x8 x9 s0 s1 M Q) : zV G X M [(0, zR G 47), (1, .int x1), (2, .int x2), (3, .int x3), (4, .int x4), (6, .int x6), (7, .int x7), (8, .int x8), (9, .int x9)] [.int s1, .int s0] 81 := by
  unfold f_X8_kindOf_b81 at h
  refine zr_iadd C dX8_kindOf_81 ?_
  refine zr_letI (fun v6 hv6 => ?_)
  have h := h v6 hv6
  refine zr_istore C [1, 2, 3, 4, 5, 0, 6, 7, 8, 9] dX8_kindOf_82 (by decide) rfl (lv' := [(0, zR G 47), (1, .int x1), (2, .int x2), (3, .int x3), (4, .int x4), (5, .int v6), (6, .int x6), (7, .int x7), (8, .int x8), (9, .int x9)]) ?_
  refine zr_iload C 6 dX8_kindOf_84 rfl ?_
  refine zr_iload C 9 dX8_kindOf_86 rfl ?_
  refine zr_if_ge C 95 dX8_kindOf_88 (by decide) (fun c => ?_) (fun c => ?_)
  · have h := h.1 c
    refine zr_iconst C (v := 0) dX8_kindOf_95 (by decide) ?_
    refine zr_sub [0, 1, 2, 3, 4, 5, 7, 8] rfl (lv' := [(0, zR G 47), (1, .int x1), (2, .int x2), (3, .int x3), (4, .int x4), (5, .int v6), (7, .int x7), (8, .int x8)]) ?_
    exact w_X8_kindOf_b96 C N Q R _ _ _ _ _ _ _ _ _ _ hk15 _ h
  · have h := h.2 c
    refine zr_iconst C (v := 1) dX8_kindOf_91 (by decide) ?_
    refine zr_goto C 96 dX8_kindOf_92 (by decide) ?_
    refine zr_sub [0, 1, 2, 3, 4, 5, 7, 8] rfl (lv' := [(0, zR G 47), (1, .int x1), (2, .int x2), (3, .int x3), (4, .int x4), (5, .int v6), (7, .int x7), (8, .int x8)]) ?_
    exact w_X8_kindOf_b96 C N Q R _ _ _ _ _ _ _ _ _ _ hk15 _ h
set_option maxHeartbeats 4000000 in
set_option maxRecDepth 100000 in
theorem w_X8_kindOf_b15 {G : zG} {X : zX} (C : zC G X cX8_kindOf RX8 3 10) (N : Nat) (Q : Int32 → zMem → Prop) (R : zRI G X cX8_kindOf Q) (x1 : Int32) (x2 : Int32) (x3 : Int32) (k15 : Int32 → Int32 → Int32 → Int32 → Int32 → zMem → Prop) (hk15 : ∀ (z4 : Int32) (z5 : Int32) (z6 : Int32) (z7 : Int32) (z8 : Int32) (M : zMem), k15 z4 z5 z6 z7 z8 M → zV G X M [(0, zR G 47), (1, .int x1), (2, .int x2), (3, .int x3), (4, .int z4), (5, .int z5), (6, .int z6), (7, .int z7), (8, .int z8)] [] 15) (x4 : Int32) (x5 : Int32) (x6 : Int32) (x7 : Int32) (x8 : Int32) (M : zMem) (h : f_X8_kindOf_b15 N k15 x1 x2 x3 x4 x5 x6 x7 x8 M Q) : zV G X M [(0, zR G 47), (1, .int x1), (2, .int x2), (3, .int x3), (4, .int x4), (5, .int x5), (6, .int x6), (7, .int x7), (8, .int x8)] [] 15 := by
  unfold f_X8_kindOf_b15 at h
  refine zr_iload C 8 dX8_kindOf_15 rfl ?_
  refine zr_aload_n C 0 dX8_kindOf_17 rfl rfl ?_
  refine zg_X8_202 C zo_47 dX8_kindOf_18 ?_
  refine zr_icmp_ge C 105 dX8_kindOf_21 (by decide) (fun c => ?_) (fun c => ?_)
  · have h := h.1 c
    refine zr_iload C 7 dX8_kindOf_105 rfl ?_
    refine zr_if_eq C 114 dX8_kindOf_107 (by decide) (fun c => ?_) (fun c => ?_)
    · have h := h.1 c
      refine zr_iload C 5 dX8_kindOf_114 rfl ?_
      refine zr_iload C 4 dX8_kindOf_116 rfl ?_
      refine zr_icmp_eq C 128 dX8_kindOf_118 (by decide) (fun c => ?_) (fun c => ?_)
      · have h := h.1 c
        refine zr_iconst C (v := 1) dX8_kindOf_128 (by decide) ?_
        refine zr_goto C 144 dX8_kindOf_129 (by decide) ?_
        exact R _ _ _ _ h dX8_kindOf_144
      · have h := h.2 c
        refine zr_iload C 6 dX8_kindOf_121 rfl ?_
        refine zr_iload C 4 dX8_kindOf_123 rfl ?_
        refine zr_icmp_ne C 132 dX8_kindOf_125 (by decide) (fun c => ?_) (fun c => ?_)
        · have h := h.1 c
          refine zr_iload C 4 dX8_kindOf_132 rfl ?_
          refine zr_bipush C (v := 12) dX8_kindOf_134 (by decide) ?_
          refine zr_icmp_ge C 143 dX8_kindOf_136 (by decide) (fun c => ?_) (fun c => ?_)
          · have h := h.1 c
            refine zr_iconst C (v := 3) dX8_kindOf_143 (by decide) ?_
            exact R _ _ _ _ h dX8_kindOf_144
          · have h := h.2 c
            refine zr_iconst C (v := 2) dX8_kindOf_139 (by decide) ?_
            refine zr_goto C 144 dX8_kindOf_140 (by decide) ?_
            exact R _ _ _ _ h dX8_kindOf_144
        · have h := h.2 c
          refine zr_iconst C (v := 1) dX8_kindOf_128 (by decide) ?_
          refine zr_goto C 144 dX8_kindOf_129 (by decide) ?_
          exact R _ _ _ _ h dX8_kindOf_144
    · have h := h.2 c
      refine zr_iconst C (v := 0) dX8_kindOf_110 (by decide) ?_
      refine zr_goto C 144 dX8_kindOf_111 (by decide) ?_
      exact R _ _ _ _ h dX8_kindOf_144
  · have h := h.2 c
    refine zr_aload_n C 0 dX8_kindOf_24 rfl rfl ?_
    refine zg_X8_47 C zo_47 dX8_kindOf_25 ?_
    refine zr_iload C 8 dX8_kindOf_28 rfl ?_
    refine zr_iald C za_60 h.1 dX8_kindOf_30 ?_
    have h := h.2
    refine zr_iload_n C 3 dX8_kindOf_31 rfl rfl ?_
    refine zr_icmp_ne C 99 dX8_kindOf_32 (by decide) (fun c => ?_) (fun c => ?_)
    · have h := h.1 c
      exact w_X8_kindOf_b99 C N Q R _ _ _ _ _ _ _ _ _ hk15 _ h
    · have h := h.2 c
      obtain ⟨v2, hv2⟩ : ∃ y : Int32, y = x4 + (1 : Int32) := ⟨_, rfl⟩
      have h := h v2 hv2
      refine zr_iinc C 4 [1, 2, 3, 4, 0, 5, 6, 8] dX8_kindOf_35 rfl (by rw [hv2]; rfl) (by decide) rfl (lv' := [(0, zR G 47), (1, .int x1), (2, .int x2), (3, .int x3), (4, .int v2), (5, .int x5), (6, .int x6), (8, .int x8)]) ?_
      refine zr_aload_n C 0 dX8_kindOf_38 rfl rfl ?_
      refine zg_X8_44 C zo_47 dX8_kindOf_39 ?_
      refine zr_iload C 7 dX8_kindOf_42 rfl ?_
      refine zr_zald C za_59 h.1 dX8_kindOf_44 ?_
      have h := h.2
      refine zr_letI (fun v3 hv3 => ?_)
      have h := h v3 hv3
      refine zr_istore C [1, 2, 3, 4, 5, 6, 7, 0, 8] dX8_kindOf_45 (by decide) rfl (lv' := [(0, zR G 47), (1, .int x1), (2, .int x2), (3, .int x3), (4, .int v2), (5, .int x5), (6, .int x6), (7, .int v3), (8, .int x8)]) ?_
      refine zr_aload_n C 0 dX8_kindOf_47 rfl rfl ?_
      refine zr_iload_n C 1 dX8_kindOf_48 rfl rfl ?_
      refine zr_aload_n C 0 dX8_kindOf_49 rfl rfl ?_
      refine zg_X8_38 C zo_47 dX8_kindOf_50 ?_
      refine zr_iload C 8 dX8_kindOf_53 rfl ?_
      refine zr_iald C za_57 h.1 dX8_kindOf_55 ?_
      have h := h.2
      refine zr_iload_n C 2 dX8_kindOf_56 rfl rfl ?_
      refine zr_aload_n C 0 dX8_kindOf_57 rfl rfl ?_
      refine zg_X8_41 C zo_47 dX8_kindOf_58 ?_
      refine zr_iload C 8 dX8_kindOf_61 rfl ?_
      refine zr_iald C za_58 h.1 dX8_kindOf_63 ?_
      have h := h.2
      refine zcI (zrunV C (rest := []) (c_X8_turnOf X.2.1 G N _ _ _ _ _ _ h) zk_X8_turnOf zl_X8_154 (zRc_7 zo_47) (by decide) (by decide) rfl (Nat.le_of_ble_eq_true rfl) rfl dX8_kindOf_64) (fun r4 M5 h => ?_)
      refine zr_istore C [1, 2, 3, 4, 5, 6, 7, 8, 9, 0] dX8_kindOf_67 (by decide) rfl (lv' := [(0, zR G 47), (1, .int x1), (2, .int x2), (3, .int x3), (4, .int v2), (5, .int x5), (6, .int x6), (7, .int v3), (8, .int x8), (9, .int r4)]) ?_
      refine zr_iload C 5 dX8_kindOf_69 rfl ?_
      refine zr_iload C 9 dX8_kindOf_71 rfl ?_
      refine zr_if_le C 80 dX8_kindOf_73 (by decide) (fun c => ?_) (fun c => ?_)
      · have h := h.1 c
        refine zr_iconst C (v := 0) dX8_kindOf_80 (by decide) ?_
        refine zr_sub [0, 1, 2, 3, 4, 6, 7, 8, 9] rfl (lv' := [(0, zR G 47), (1, .int x1), (2, .int x2), (3, .int x3), (4, .int v2), (6, .int x6), (7, .int v3), (8, .int x8), (9, .int r4)]) ?_
        exact w_X8_kindOf_b81 C N Q R _ _ _ _ _ _ _ _ _ _ _ hk15 _ h
      · have h := h.2 c
        refine zr_iconst C (v := 1) dX8_kindOf_76 (by decide) ?_
        refine zr_goto C 81 dX8_kindOf_77 (by decide) ?_
        refine zr_sub [0, 1, 2, 3, 4, 6, 7, 8, 9] rfl (lv' := [(0, zR G 47), (1, .int x1), (2, .int x2), (3, .int x3), (4, .int v2), (6, .int x6), (7, .int v3), (8, .int x8), (9, .int r4)]) ?_
        exact w_X8_kindOf_b81 C N Q R _ _ _ _ _ _ _ _ _ _ _ hk15 _ h
theorem w_X8_kindOf_l15 {G : zG} {X : zX} (C : zC G X cX8_kindOf RX8 3 10) (N : Nat) (Q : Int32 → zMem → Prop) (R : zRI G X cX8_kindOf Q) (x1 : Int32) (x2 : Int32) (x3 : Int32) : ∀ (n : Nat) (x4 : Int32) (x5 : Int32) (x6 : Int32) (x7 : Int32) (x8 : Int32) (M : zMem), f_X8_kindOf_l15 N x1 x2 x3 Q n x4 x5 x6 x7 x8 M → zV G X M [(0, zR G 47), (1, .int x1), (2, .int x2), (3, .int x3), (4, .int x4), (5, .int x5), (6, .int x6), (7, .int x7), (8, .int x8)] [] 15 := by
  intro n
  induction n with
  | zero => intro x4 x5 x6 x7 x8 M h; exact h.elim
  | succ n ih =>
    intro x4 x5 x6 x7 x8 M h
    exact w_X8_kindOf_b15 C N Q R x1 x2 x3  _ ih x4 x5 x6 x7 x8 M h
set_option maxHeartbeats 4000000 in
set_option maxRecDepth 100000 in
theorem c_X8_kindOf (l : Launch) (G : zG) (N : Nat) (x1 : Int32) (x2 : Int32) (x3 : Int32) (M : zMem) (Q : Int32 → zMem → Prop) (h : f_X8_kindOf N x1 x2 x3 M Q) : zMI l G yX8_kindOf cX8_kindOf 10 .int 3 [zR G 47, .int x1, .int x2, .int x3] M Q := by
  refine zEI (by decide) (Nat.le_of_ble_eq_true rfl) (lv := [(0, zR G 47), (1, .int x1), (2, .int x2), (3, .int x3)]) rfl (fun X C R => ?_)
  have C : zC G X cX8_kindOf RX8 3 10 := C
  unfold f_X8_kindOf at h
  refine zr_iconst C (v := 0) dX8_kindOf_0 (by decide) ?_
  refine zr_istore C [1, 2, 3, 4, 0] dX8_kindOf_1 (by decide) rfl (lv' := [(0, zR G 47), (1, .int x1), (2, .int x2), (3, .int x3), (4, .int (0 : Int32))]) ?_
  refine zr_iconst C (v := 0) dX8_kindOf_3 (by decide) ?_
  refine zr_istore C [1, 2, 3, 4, 5, 0] dX8_kindOf_4 (by decide) rfl (lv' := [(0, zR G 47), (1, .int x1), (2, .int x2), (3, .int x3), (4, .int (0 : Int32)), (5, .int (0 : Int32))]) ?_
  refine zr_iconst C (v := 0) dX8_kindOf_6 (by decide) ?_
  refine zr_istore C [1, 2, 3, 4, 5, 6, 0] dX8_kindOf_7 (by decide) rfl (lv' := [(0, zR G 47), (1, .int x1), (2, .int x2), (3, .int x3), (4, .int (0 : Int32)), (5, .int (0 : Int32)), (6, .int (0 : Int32))]) ?_
  refine zr_iconst C (v := 0) dX8_kindOf_9 (by decide) ?_
  refine zr_istore C [1, 2, 3, 4, 5, 6, 7, 0] dX8_kindOf_10 (by decide) rfl (lv' := [(0, zR G 47), (1, .int x1), (2, .int x2), (3, .int x3), (4, .int (0 : Int32)), (5, .int (0 : Int32)), (6, .int (0 : Int32)), (7, .int (0 : Int32))]) ?_
  refine zr_iconst C (v := 0) dX8_kindOf_12 (by decide) ?_
  refine zr_istore C [1, 2, 3, 4, 5, 6, 7, 8, 0] dX8_kindOf_13 (by decide) rfl (lv' := [(0, zR G 47), (1, .int x1), (2, .int x2), (3, .int x3), (4, .int (0 : Int32)), (5, .int (0 : Int32)), (6, .int (0 : Int32)), (7, .int (0 : Int32)), (8, .int (0 : Int32))]) ?_
  exact w_X8_kindOf_l15 C N Q R _ _ _ N _ _ _ _ _ _ h
/-! X8_ofSpot -/
set_option maxHeartbeats 4000000 in
set_option maxRecDepth 100000 in
theorem w_X8_ofSpot_b103 {G : zG} {X : zX} (C : zC G X cX8_ofSpot RX8 3 8) (N : Nat) (Q : Int32 → zMem → Prop) (R : zRI G X cX8_ofSpot Q) (x1 : Int32) (x2 : Int32) (x3 : Int32) (x4 : Int32) (x5 : Int32) (x6 : Int32) (k12 : Int32 → Int32 → Int32 → Int32 → zMem → Prop) (hk12 : ∀ (z3 : Int32) (z4 : Int32) (z5 : Int32) (z6 : Int32) (M : zMem), k12 z3 z4 z5 z6 M → zV G X M [(0, zR G 47), (1, .int x1), (2, .int x2), (3, .int z3), (4, .int z4), (5, .int z5), (6, .int z6)] [] 12) (M : zMem) (h : f_X8_ofSpot_b103 N k12 x1 x2 x3 x4 x5 x6 M Q) : zV G X M [(0, zR G 47), (1, .int x1), (2, .int x2), (3, .int x3), (4, .int x4), (5, .int x5), (6, .int x6)] [] 103 := by
  unfold f_X8_ofSpot_b103 at h
  obtain ⟨v1, hv1⟩ : ∃ y : Int32, y = x6 + (1 : Int32) := ⟨_, rfl⟩
  have h := h v1 hv1
  refine zr_iinc C 6 [1, 2, 3, 4, 5, 6, 0] dX8_ofSpot_103 rfl (by rw [hv1]; rfl) (by decide) rfl (lv' := [(0, zR G 47), (1, .int x1), (2, .int x2), (3, .int x3), (4, .int x4), (5, .int x5), (6, .int v1)]) ?_
  refine zr_goto C 12 dX8_ofSpot_106 (by decide) ?_
  exact hk12 _ _ _ _ _ h
set_option maxHeartbeats 4000000 in
set_option maxRecDepth 100000 in
theorem w_X8_ofSpot_b101 {G : zG} {X : zX} (C : zC G X cX8_ofSpot RX8 3 8) (N : Nat) (Q : Int32 → zMem → Prop) (R : zRI G X cX8_ofSpot Q) (x1 : Int32) (x2 : Int32) (x3 : Int32) (x4 : Int32) (x6 : Int32) (s0 : Int32) (k12 : Int32 → Int32 → Int32 → Int32 → zMem → Prop) (hk12 : ∀ (z3 : Int32) (z4 : Int32) (z5 : Int32) (z6 : Int32) (M : zMem), k12 z3 z4 z5 z6 M → zV G X M [(0, zR G 47), (1, .int x1), (2, .int x2), (3, .int z3), (4, .int z4), (5, .int z5), (6, .int z6)] [] 12) (M : zMem) (h : f_X8_ofSpot_b101 N k12 x1 x2 x3 x4 x6 s0 M Q) : zV G X M [(0, zR G 47), (1, .int x1), (2, .int x2), (3, .int x3), (4, .int x4), (6, .int x6)] [.int s0] 101 := by
  unfold f_X8_ofSpot_b101 at h
  refine zr_istore C [1, 2, 3, 4, 5, 0, 6] dX8_ofSpot_101 (by decide) rfl (lv' := [(0, zR G 47), (1, .int x1), (2, .int x2), (3, .int x3), (4, .int x4), (5, .int s0), (6, .int x6)]) ?_
  exact w_X8_ofSpot_b103 C N Q R _ _ _ _ _ _ _ hk12 _ h
set_option maxHeartbeats 4000000 in
set_option maxRecDepth 100000 in
theorem w_X8_ofSpot_b79 {G : zG} {X : zX} (C : zC G X cX8_ofSpot RX8 3 8) (N : Nat) (Q : Int32 → zMem → Prop) (R : zRI G X cX8_ofSpot Q) (x1 : Int32) (x2 : Int32) (x3 : Int32) (x5 : Int32) (x6 : Int32) (x7 : Int32) (s0 : Int32) (k12 : Int32 → Int32 → Int32 → Int32 → zMem → Prop) (hk12 : ∀ (z3 : Int32) (z4 : Int32) (z5 : Int32) (z6 : Int32) (M : zMem), k12 z3 z4 z5 z6 M → zV G X M [(0, zR G 47), (1, .int x1), (2, .int x2), (3, .int z3), (4, .int z4), (5, .int z5), (6, .int z6)] [] 12) (M : zMem) (h : f_X8_ofSpot_b79 N k12 x1 x2 x3 x5 x6 x7 s0 M Q) : zV G X M [(0, zR G 47), (1, .int x1), (2, .int x2), (3, .int x3), (5, .int x5), (6, .int x6), (7, .int x7)] [.int s0] 79 := by
  unfold f_X8_ofSpot_b79 at h
  refine zr_istore C [1, 2, 3, 4, 0, 5, 6, 7] dX8_ofSpot_79 (by decide) rfl (lv' := [(0, zR G 47), (1, .int x1), (2, .int x2), (3, .int x3), (4, .int s0), (5, .int x5), (6, .int x6), (7, .int x7)]) ?_
  refine zr_iload C 7 dX8_ofSpot_81 rfl ?_
  refine zcI (zrunS C (rest := []) (c_X8_to X.2.1 G N _ _ _ h) zk_X8_to zl_X8_110 (by decide) (by decide) rfl (Nat.le_of_ble_eq_true rfl) rfl dX8_ofSpot_83) (fun r5 M6 h => ?_)
  refine zr_iload C 5 dX8_ofSpot_86 rfl ?_
  refine zr_icmp_le C 99 dX8_ofSpot_88 (by decide) (fun c => ?_) (fun c => ?_)
  · have h := h.1 c
    refine zr_iload C 5 dX8_ofSpot_99 rfl ?_
    refine zr_sub [0, 1, 2, 3, 4, 6] rfl (lv' := [(0, zR G 47), (1, .int x1), (2, .int x2), (3, .int x3), (4, .int s0), (6, .int x6)]) ?_
    exact w_X8_ofSpot_b101 C N Q R _ _ _ _ _ _ _ hk12 _ h
  · have h := h.2 c
    refine zr_iload C 7 dX8_ofSpot_91 rfl ?_
    refine zcI (zrunS C (rest := []) (c_X8_to X.2.1 G N _ _ _ h) zk_X8_to zl_X8_110 (by decide) (by decide) rfl (Nat.le_of_ble_eq_true rfl) rfl dX8_ofSpot_93) (fun r7 M8 h => ?_)
    refine zr_goto C 101 dX8_ofSpot_96 (by decide) ?_
    refine zr_sub [0, 1, 2, 3, 4, 6] rfl (lv' := [(0, zR G 47), (1, .int x1), (2, .int x2), (3, .int x3), (4, .int s0), (6, .int x6)]) ?_
    exact w_X8_ofSpot_b101 C N Q R _ _ _ _ _ _ _ hk12 _ h
set_option maxHeartbeats 4000000 in
set_option maxRecDepth 100000 in
theorem w_X8_ofSpot_b54 {G : zG} {X : zX} (C : zC G X cX8_ofSpot RX8 3 8) (N : Nat) (Q : Int32 → zMem → Prop) (R : zRI G X cX8_ofSpot Q) (x1 : Int32) (x2 : Int32) (x3 : Int32) (x4 : Int32) (x5 : Int32) (x6 : Int32) (s0 : Int32) (k12 : Int32 → Int32 → Int32 → Int32 → zMem → Prop) (hk12 : ∀ (z3 : Int32) (z4 : Int32) (z5 : Int32) (z6 : Int32) (M : zMem), k12 z3 z4 z5 z6 M → zV G X M [(0, zR G 47), (1, .int x1), (2, .int x2), (3, .int z3), (4, .int z4), (5, .int z5), (6, .int z6)] [] 12) (M : zMem) (h : f_X8_ofSpot_b54 N k12 x1 x2 x3 x4 x5 x6 s0 M Q) : zV G X M [(0, zR G 47), (1, .int x1), (2, .int x2), (3, .int x3), (4, .int x4), (5, .int x5), (6, .int x6)] [.int s0] 54 := by
  unfold f_X8_ofSpot_b54 at h
  refine zr_istore C [1, 2, 3, 4, 5, 6, 7, 0] dX8_ofSpot_54 (by decide) rfl (lv' := [(0, zR G 47), (1, .int x1), (2, .int x2), (3, .int x3), (4, .int x4), (5, .int x5), (6, .int x6), (7, .int s0)]) ?_
  obtain ⟨v2, hv2⟩ : ∃ y : Int32, y = x3 + (1 : Int32) := ⟨_, rfl⟩
  have h := h v2 hv2
  refine zr_iinc C 3 [1, 2, 3, 0, 4, 5, 6, 7] dX8_ofSpot_56 rfl (by rw [hv2]; rfl) (by decide) rfl (lv' := [(0, zR G 47), (1, .int x1), (2, .int x2), (3, .int v2), (4, .int x4), (5, .int x5), (6, .int x6), (7, .int s0)]) ?_
  refine zr_iload C 7 dX8_ofSpot_59 rfl ?_
  refine zcI (zrunS C (rest := []) (c_X8_from X.2.1 G N _ _ _ h) zk_X8_from zl_X8_107 (by decide) (by decide) rfl (Nat.le_of_ble_eq_true rfl) rfl dX8_ofSpot_61) (fun r3 M4 h => ?_)
  refine zr_iload C 4 dX8_ofSpot_64 rfl ?_
  refine zr_icmp_ge C 77 dX8_ofSpot_66 (by decide) (fun c => ?_) (fun c => ?_)
  · have h := h.1 c
    refine zr_iload C 4 dX8_ofSpot_77 rfl ?_
    refine zr_sub [0, 1, 2, 3, 5, 6, 7] rfl (lv' := [(0, zR G 47), (1, .int x1), (2, .int x2), (3, .int v2), (5, .int x5), (6, .int x6), (7, .int s0)]) ?_
    exact w_X8_ofSpot_b79 C N Q R _ _ _ _ _ _ _ _ hk12 _ h
  · have h := h.2 c
    refine zr_iload C 7 dX8_ofSpot_69 rfl ?_
    refine zcI (zrunS C (rest := []) (c_X8_from X.2.1 G N _ _ _ h) zk_X8_from zl_X8_107 (by decide) (by decide) rfl (Nat.le_of_ble_eq_true rfl) rfl dX8_ofSpot_71) (fun r9 M10 h => ?_)
    refine zr_goto C 79 dX8_ofSpot_74 (by decide) ?_
    refine zr_sub [0, 1, 2, 3, 5, 6, 7] rfl (lv' := [(0, zR G 47), (1, .int x1), (2, .int x2), (3, .int v2), (5, .int x5), (6, .int x6), (7, .int s0)]) ?_
    exact w_X8_ofSpot_b79 C N Q R _ _ _ _ _ _ _ _ hk12 _ h
set_option maxHeartbeats 4000000 in
set_option maxRecDepth 100000 in
theorem w_X8_ofSpot_b12 {G : zG} {X : zX} (C : zC G X cX8_ofSpot RX8 3 8) (N : Nat) (Q : Int32 → zMem → Prop) (R : zRI G X cX8_ofSpot Q) (x1 : Int32) (x2 : Int32) (k12 : Int32 → Int32 → Int32 → Int32 → zMem → Prop) (hk12 : ∀ (z3 : Int32) (z4 : Int32) (z5 : Int32) (z6 : Int32) (M : zMem), k12 z3 z4 z5 z6 M → zV G X M [(0, zR G 47), (1, .int x1), (2, .int x2), (3, .int z3), (4, .int z4), (5, .int z5), (6, .int z6)] [] 12) (x3 : Int32) (x4 : Int32) (x5 : Int32) (x6 : Int32) (M : zMem) (h : f_X8_ofSpot_b12 N k12 x1 x2 x3 x4 x5 x6 M Q) : zV G X M [(0, zR G 47), (1, .int x1), (2, .int x2), (3, .int x3), (4, .int x4), (5, .int x5), (6, .int x6)] [] 12 := by
  unfold f_X8_ofSpot_b12 at h
  refine zr_iload C 6 dX8_ofSpot_12 rfl ?_
  refine zr_aload_n C 0 dX8_ofSpot_14 rfl rfl ?_
  refine zg_X8_202 C zo_47 dX8_ofSpot_15 ?_
  refine zr_icmp_ge C 109 dX8_ofSpot_18 (by decide) (fun c => ?_) (fun c => ?_)
  · have h := h.1 c
    refine zr_iload_n C 2 dX8_ofSpot_109 rfl rfl ?_
    refine zr_iconst C (v := 1) dX8_ofSpot_110 (by decide) ?_
    refine zr_icmp_ne C 118 dX8_ofSpot_111 (by decide) (fun c => ?_) (fun c => ?_)
    · have h := h.1 c
      refine zr_iload_n C 2 dX8_ofSpot_118 rfl rfl ?_
      refine zr_iconst C (v := 2) dX8_ofSpot_119 (by decide) ?_
      refine zr_irem C dX8_ofSpot_120 (by decide) ?_
      refine zr_if_ne C 129 dX8_ofSpot_121 (by decide) (fun c => ?_) (fun c => ?_)
      · have h := h.1 c
        refine zr_iload C 5 dX8_ofSpot_129 rfl ?_
        exact R _ _ _ _ h dX8_ofSpot_131
      · have h := h.2 c
        refine zr_iload C 4 dX8_ofSpot_124 rfl ?_
        refine zr_goto C 131 dX8_ofSpot_126 (by decide) ?_
        exact R _ _ _ _ h dX8_ofSpot_131
    · have h := h.2 c
      refine zr_iload_n C 3 dX8_ofSpot_114 rfl rfl ?_
      refine zr_goto C 131 dX8_ofSpot_115 (by decide) ?_
      exact R _ _ _ _ h dX8_ofSpot_131
  · have h := h.2 c
    refine zr_aload_n C 0 dX8_ofSpot_21 rfl rfl ?_
    refine zg_X8_47 C zo_47 dX8_ofSpot_22 ?_
    refine zr_iload C 6 dX8_ofSpot_25 rfl ?_
    refine zr_iald C za_60 h.1 dX8_ofSpot_27 ?_
    have h := h.2
    refine zr_iload_n C 1 dX8_ofSpot_28 rfl rfl ?_
    refine zr_icmp_ne C 103 dX8_ofSpot_29 (by decide) (fun c => ?_) (fun c => ?_)
    · have h := h.1 c
      exact w_X8_ofSpot_b103 C N Q R _ _ _ _ _ _ _ hk12 _ h
    · have h := h.2 c
      refine zr_iload_n C 2 dX8_ofSpot_32 rfl rfl ?_
      refine zr_iconst C (v := 4) dX8_ofSpot_33 (by decide) ?_
      refine zr_icmp_ge C 47 dX8_ofSpot_34 (by decide) (fun c => ?_) (fun c => ?_)
      · have h := h.1 c
        refine zr_aload_n C 0 dX8_ofSpot_47 rfl rfl ?_
        refine zg_X8_41 C zo_47 dX8_ofSpot_48 ?_
        refine zr_iload C 6 dX8_ofSpot_51 rfl ?_
        refine zr_iald C za_58 h.1 dX8_ofSpot_53 ?_
        have h := h.2
        exact w_X8_ofSpot_b54 C N Q R _ _ _ _ _ _ _ _ hk12 _ h
      · have h := h.2 c
        refine zr_aload_n C 0 dX8_ofSpot_37 rfl rfl ?_
        refine zg_X8_38 C zo_47 dX8_ofSpot_38 ?_
        refine zr_iload C 6 dX8_ofSpot_41 rfl ?_
        refine zr_iald C za_57 h.1 dX8_ofSpot_43 ?_
        have h := h.2
        refine zr_goto C 54 dX8_ofSpot_44 (by decide) ?_
        exact w_X8_ofSpot_b54 C N Q R _ _ _ _ _ _ _ _ hk12 _ h
theorem w_X8_ofSpot_l12 {G : zG} {X : zX} (C : zC G X cX8_ofSpot RX8 3 8) (N : Nat) (Q : Int32 → zMem → Prop) (R : zRI G X cX8_ofSpot Q) (x1 : Int32) (x2 : Int32) : ∀ (n : Nat) (x3 : Int32) (x4 : Int32) (x5 : Int32) (x6 : Int32) (M : zMem), f_X8_ofSpot_l12 N x1 x2 Q n x3 x4 x5 x6 M → zV G X M [(0, zR G 47), (1, .int x1), (2, .int x2), (3, .int x3), (4, .int x4), (5, .int x5), (6, .int x6)] [] 12 := by
  intro n
  induction n with
  | zero => intro x3 x4 x5 x6 M h; exact h.elim
  | succ n ih =>
    intro x3 x4 x5 x6 M h
    exact w_X8_ofSpot_b12 C N Q R x1 x2  _ ih x3 x4 x5 x6 M h
set_option maxHeartbeats 4000000 in
set_option maxRecDepth 100000 in
theorem c_X8_ofSpot (l : Launch) (G : zG) (N : Nat) (x1 : Int32) (x2 : Int32) (M : zMem) (Q : Int32 → zMem → Prop) (h : f_X8_ofSpot N x1 x2 M Q) : zMI l G yX8_ofSpot cX8_ofSpot 8 .int 3 [zR G 47, .int x1, .int x2] M Q := by
  refine zEI (by decide) (Nat.le_of_ble_eq_true rfl) (lv := [(0, zR G 47), (1, .int x1), (2, .int x2)]) rfl (fun X C R => ?_)
  have C : zC G X cX8_ofSpot RX8 3 8 := C
  unfold f_X8_ofSpot at h
  refine zr_iconst C (v := 0) dX8_ofSpot_0 (by decide) ?_
  refine zr_istore_n C [1, 2, 3, 0] dX8_ofSpot_1 rfl (by decide) rfl (lv' := [(0, zR G 47), (1, .int x1), (2, .int x2), (3, .int (0 : Int32))]) ?_
  refine zr_bipush C (v := 33) dX8_ofSpot_2 (by decide) ?_
  refine zr_istore C [1, 2, 3, 4, 0] dX8_ofSpot_4 (by decide) rfl (lv' := [(0, zR G 47), (1, .int x1), (2, .int x2), (3, .int (0 : Int32)), (4, .int (33 : Int32))]) ?_
  refine zr_iconst C (v := -1) dX8_ofSpot_6 (by decide) ?_
  refine zr_istore C [1, 2, 3, 4, 5, 0] dX8_ofSpot_7 (by decide) rfl (lv' := [(0, zR G 47), (1, .int x1), (2, .int x2), (3, .int (0 : Int32)), (4, .int (33 : Int32)), (5, .int (-1 : Int32))]) ?_
  refine zr_iconst C (v := 0) dX8_ofSpot_9 (by decide) ?_
  refine zr_istore C [1, 2, 3, 4, 5, 6, 0] dX8_ofSpot_10 (by decide) rfl (lv' := [(0, zR G 47), (1, .int x1), (2, .int x2), (3, .int (0 : Int32)), (4, .int (33 : Int32)), (5, .int (-1 : Int32)), (6, .int (0 : Int32))]) ?_
  exact w_X8_ofSpot_l12 C N Q R _ _ N _ _ _ _ _ h
/-! X8_spot -/
set_option maxHeartbeats 4000000 in
set_option maxRecDepth 100000 in
theorem c_X8_spot (l : Launch) (G : zG) (N : Nat) (x1 : Int32) (x2 : Int32) (x3 : Int32) (x4 : Int32) (M : zMem) (Q : Int32 → zMem → Prop) (h : f_X8_spot N x1 x2 x3 x4 M Q) : zMI l G yX8_spot cX8_spot 5 .int 8 [zR G 47, .int x1, .int x2, .int x3, .int x4] M Q := by
  refine zEI (by decide) (Nat.le_of_ble_eq_true rfl) (lv := [(0, zR G 47), (1, .int x1), (2, .int x2), (3, .int x3), (4, .int x4)]) rfl (fun X C R => ?_)
  have C : zC G X cX8_spot RX8 8 5 := C
  unfold f_X8_spot at h
  refine zr_aload_n C 0 dX8_spot_0 rfl rfl ?_
  refine zr_iconst C (v := 0) dX8_spot_1 (by decide) ?_
  refine zp_X8_60 C zo_47 dX8_spot_2 ?_
  refine zr_letM (fun M1 hM1 => ?_)
  have h := h M1 hM1
  refine zr_aload_n C 0 dX8_spot_5 rfl rfl ?_
  refine zr_iload_n C 1 dX8_spot_6 rfl rfl ?_
  refine zr_iload_n C 2 dX8_spot_7 rfl rfl ?_
  refine zcI (zrunV C (rest := []) (c_X8_arePair X.2.1 G N _ _ _ _ h) zk_X8_arePair zl_X8_170 (zRc_7 zo_47) (by decide) (by decide) rfl (Nat.le_of_ble_eq_true rfl) rfl dX8_spot_8) (fun r2 M3 h => ?_)
  refine zr_if_eq C 28 dX8_spot_11 (by decide) (fun c => ?_) (fun c => ?_)
  · have h := h.1 c
    refine zr_iconst C (v := -1) dX8_spot_28 (by decide) ?_
    exact R _ _ _ _ h dX8_spot_29
  · have h := h.2 c
    refine zr_iload_n C 3 dX8_spot_14 rfl rfl ?_
    refine zr_if_lt C 28 dX8_spot_15 (by decide) (fun c => ?_) (fun c => ?_)
    · have h := h.1 c
      refine zr_iconst C (v := -1) dX8_spot_28 (by decide) ?_
      exact R _ _ _ _ h dX8_spot_29
    · have h := h.2 c
      refine zr_iload C 4 dX8_spot_18 rfl ?_
      refine zr_iconst C (v := 0) dX8_spot_20 (by decide) ?_
      refine zr_iconst C (v := 5) dX8_spot_21 (by decide) ?_
      refine zcI (zrunS C (rest := []) (c_X8_in X.2.1 G N _ _ _ _ _ h) zk_X8_in zl_X8_63 (by decide) (by decide) rfl (Nat.le_of_ble_eq_true rfl) rfl dX8_spot_22) (fun r4 M5 h => ?_)
      refine zr_if_ne C 30 dX8_spot_25 (by decide) (fun c => ?_) (fun c => ?_)
      · have h := h.1 c
        refine zr_aload_n C 0 dX8_spot_30 rfl rfl ?_
        refine zr_iload_n C 1 dX8_spot_31 rfl rfl ?_
        refine zr_iload_n C 2 dX8_spot_32 rfl rfl ?_
        refine zcI (zrunV C (rest := []) (c_X8_meet X.2.1 G N _ _ _ _ h) zk_X8_meet zl_X8_217 (zRc_7 zo_47) (by decide) (by decide) rfl (Nat.le_of_ble_eq_true rfl) rfl dX8_spot_33) (fun r6 M7 h => ?_)
        refine zr_if_ne C 42 dX8_spot_36 (by decide) (fun c => ?_) (fun c => ?_)
        · have h := h.1 c
          refine zr_iload_n C 3 dX8_spot_42 rfl rfl ?_
          refine zr_aload_n C 0 dX8_spot_43 rfl rfl ?_
          refine zg_X8_208 C zo_47 dX8_spot_44 ?_
          refine zr_icmp_lt C 55 dX8_spot_47 (by decide) (fun c => ?_) (fun c => ?_)
          · have h := h.1 c
            refine zr_iload C 4 dX8_spot_55 rfl ?_
            refine zr_if_ne C 70 dX8_spot_57 (by decide) (fun c => ?_) (fun c => ?_)
            · have h := h.1 c
              refine zr_aload_n C 0 dX8_spot_70 rfl rfl ?_
              refine zr_iload_n C 3 dX8_spot_71 rfl rfl ?_
              refine zr_iload C 4 dX8_spot_72 rfl ?_
              refine zcI (zrunV C (rest := []) (c_X8_ofSpot X.2.1 G N _ _ _ _ h) zk_X8_ofSpot zl_X8_223 (zRc_7 zo_47) (by decide) (by decide) rfl (Nat.le_of_ble_eq_true rfl) rfl dX8_spot_74) (fun r8 M9 h => ?_)
              exact R _ _ _ _ h dX8_spot_77
            · have h := h.2 c
              refine zr_aload_n C 0 dX8_spot_60 rfl rfl ?_
              refine zr_iload_n C 1 dX8_spot_61 rfl rfl ?_
              refine zr_iload_n C 2 dX8_spot_62 rfl rfl ?_
              refine zr_iload_n C 3 dX8_spot_63 rfl rfl ?_
              refine zcI (zrunV C (rest := []) (c_X8_kindOf X.2.1 G N _ _ _ _ _ h) zk_X8_kindOf zl_X8_220 (zRc_7 zo_47) (by decide) (by decide) rfl (Nat.le_of_ble_eq_true rfl) rfl dX8_spot_64) (fun r10 M11 h => ?_)
              refine zr_goto C 77 dX8_spot_67 (by decide) ?_
              exact R _ _ _ _ h dX8_spot_77
          · have h := h.2 c
            refine zr_bipush C (v := -9) dX8_spot_50 (by decide) ?_
            refine zr_goto C 77 dX8_spot_52 (by decide) ?_
            exact R _ _ _ _ h dX8_spot_77
        · have h := h.2 c
          refine zr_bipush C (v := -4) dX8_spot_39 (by decide) ?_
          exact R _ _ _ _ h dX8_spot_41
      · have h := h.2 c
        refine zr_iconst C (v := -1) dX8_spot_28 (by decide) ?_
        exact R _ _ _ _ h dX8_spot_29
/-! X8_spotsOf -/
set_option maxHeartbeats 4000000 in
set_option maxRecDepth 100000 in
theorem c_X8_spotsOf (l : Launch) (G : zG) (N : Nat) (x1 : Int32) (x2 : Int32) (M : zMem) (Q : Int32 → zMem → Prop) (h : f_X8_spotsOf N x1 x2 M Q) : zMI l G yX8_spotsOf cX8_spotsOf 3 .int 8 [zR G 47, .int x1, .int x2] M Q := by
  refine zEI (by decide) (Nat.le_of_ble_eq_true rfl) (lv := [(0, zR G 47), (1, .int x1), (2, .int x2)]) rfl (fun X C R => ?_)
  have C : zC G X cX8_spotsOf RX8 8 3 := C
  unfold f_X8_spotsOf at h
  refine zr_iload_n C 1 dX8_spotsOf_0 rfl rfl ?_
  refine zr_iload_n C 2 dX8_spotsOf_1 rfl rfl ?_
  refine zr_icmp_ne C 7 dX8_spotsOf_2 (by decide) (fun c => ?_) (fun c => ?_)
  · have h := h.1 c
    refine zr_aload_n C 0 dX8_spotsOf_7 rfl rfl ?_
    refine zr_iload_n C 1 dX8_spotsOf_8 rfl rfl ?_
    refine zr_iload_n C 2 dX8_spotsOf_9 rfl rfl ?_
    refine zcI (zrunV C (rest := []) (c_X8_meet X.2.1 G N _ _ _ _ h) zk_X8_meet zl_X8_217 (zRc_7 zo_47) (by decide) (by decide) rfl (Nat.le_of_ble_eq_true rfl) rfl dX8_spotsOf_10) (fun r1 M2 h => ?_)
    refine zr_if_eq C 23 dX8_spotsOf_13 (by decide) (fun c => ?_) (fun c => ?_)
    · have h := h.1 c
      refine zr_bipush C (v := 101) dX8_spotsOf_23 (by decide) ?_
      exact R _ _ _ _ h dX8_spotsOf_25
    · have h := h.2 c
      refine zr_aload_n C 0 dX8_spotsOf_16 rfl rfl ?_
      refine zg_X8_208 C zo_47 dX8_spotsOf_17 ?_
      refine zr_goto C 25 dX8_spotsOf_20 (by decide) ?_
      exact R _ _ _ _ h dX8_spotsOf_25
  · have h := h.2 c
    refine zr_iconst C (v := 0) dX8_spotsOf_5 (by decide) ?_
    exact R _ _ _ _ h dX8_spotsOf_6
/-! X8_busiest -/
set_option maxHeartbeats 4000000 in
set_option maxRecDepth 100000 in
theorem w_X8_busiest_b102 {G : zG} {X : zX} (C : zC G X cX8_busiest RX8 9 7) (N : Nat) (Q : Int32 → zMem → Prop) (R : zRI G X cX8_busiest Q) (x1 : Int32) (x3 : Int32) (x4 : Int32) (x5 : Int32) (s0 : Int32) (k24 : Int32 → Int32 → Int32 → zMem → Prop) (hk24 : ∀ (z2 : Int32) (z3 : Int32) (z4 : Int32) (M : zMem), k24 z2 z3 z4 M → zV G X M [(0, zR G 47), (1, .int x1), (2, .int z2), (3, .int z3), (4, .int z4)] [] 24) (k39 : Int32 → Int32 → Int32 → zMem → Prop) (hk39 : ∀ (z2 : Int32) (z3 : Int32) (z5 : Int32) (M : zMem), k39 z2 z3 z5 M → zV G X M [(0, zR G 47), (1, .int x1), (2, .int z2), (3, .int z3), (4, .int x4), (5, .int z5)] [] 39) (M : zMem) (h : f_X8_busiest_b102 N k24 k39 x1 x3 x4 x5 s0 M Q) : zV G X M [(0, zR G 47), (1, .int x1), (3, .int x3), (4, .int x4), (5, .int x5)] [.int s0] 102 := by
  unfold f_X8_busiest_b102 at h
  refine zr_istore_n C [1, 2, 0, 3, 4, 5] dX8_busiest_102 rfl (by decide) rfl (lv' := [(0, zR G 47), (1, .int x1), (2, .int s0), (3, .int x3), (4, .int x4), (5, .int x5)]) ?_
  obtain ⟨v8, hv8⟩ : ∃ y : Int32, y = x5 + (1 : Int32) := ⟨_, rfl⟩
  have h := h v8 hv8
  refine zr_iinc C 5 [1, 2, 3, 4, 5, 0] dX8_busiest_103 rfl (by rw [hv8]; rfl) (by decide) rfl (lv' := [(0, zR G 47), (1, .int x1), (2, .int s0), (3, .int x3), (4, .int x4), (5, .int v8)]) ?_
  refine zr_goto C 39 dX8_busiest_106 (by decide) ?_
  exact hk39 _ _ _ _ h
set_option maxHeartbeats 4000000 in
set_option maxRecDepth 100000 in
theorem w_X8_busiest_b89 {G : zG} {X : zX} (C : zC G X cX8_busiest RX8 9 7) (N : Nat) (Q : Int32 → zMem → Prop) (R : zRI G X cX8_busiest Q) (x1 : Int32) (x2 : Int32) (x4 : Int32) (x5 : Int32) (x6 : Int32) (s0 : Int32) (k24 : Int32 → Int32 → Int32 → zMem → Prop) (hk24 : ∀ (z2 : Int32) (z3 : Int32) (z4 : Int32) (M : zMem), k24 z2 z3 z4 M → zV G X M [(0, zR G 47), (1, .int x1), (2, .int z2), (3, .int z3), (4, .int z4)] [] 24) (k39 : Int32 → Int32 → Int32 → zMem → Prop) (hk39 : ∀ (z2 : Int32) (z3 : Int32) (z5 : Int32) (M : zMem), k39 z2 z3 z5 M → zV G X M [(0, zR G 47), (1, .int x1), (2, .int z2), (3, .int z3), (4, .int x4), (5, .int z5)] [] 39) (M : zMem) (h : f_X8_busiest_b89 N k24 k39 x1 x2 x4 x5 x6 s0 M Q) : zV G X M [(0, zR G 47), (1, .int x1), (2, .int x2), (4, .int x4), (5, .int x5), (6, .int x6)] [.int s0] 89 := by
  unfold f_X8_busiest_b89 at h
  refine zr_istore_n C [1, 2, 3, 0, 4, 5, 6] dX8_busiest_89 rfl (by decide) rfl (lv' := [(0, zR G 47), (1, .int x1), (2, .int x2), (3, .int s0), (4, .int x4), (5, .int x5), (6, .int x6)]) ?_
  refine zr_iload C 6 dX8_busiest_90 rfl ?_
  refine zr_iload_n C 2 dX8_busiest_92 rfl rfl ?_
  refine zr_icmp_le C 101 dX8_busiest_93 (by decide) (fun c => ?_) (fun c => ?_)
  · have h := h.1 c
    refine zr_iload_n C 2 dX8_busiest_101 rfl rfl ?_
    refine zr_sub [0, 1, 3, 4, 5] rfl (lv' := [(0, zR G 47), (1, .int x1), (3, .int s0), (4, .int x4), (5, .int x5)]) ?_
    exact w_X8_busiest_b102 C N Q R _ _ _ _ _ _ hk24 _ hk39 _ h
  · have h := h.2 c
    refine zr_iload C 6 dX8_busiest_96 rfl ?_
    refine zr_goto C 102 dX8_busiest_98 (by decide) ?_
    refine zr_sub [0, 1, 3, 4, 5] rfl (lv' := [(0, zR G 47), (1, .int x1), (3, .int s0), (4, .int x4), (5, .int x5)]) ?_
    exact w_X8_busiest_b102 C N Q R _ _ _ _ _ _ hk24 _ hk39 _ h
set_option maxHeartbeats 4000000 in
set_option maxRecDepth 100000 in
theorem w_X8_busiest_b39 {G : zG} {X : zX} (C : zC G X cX8_busiest RX8 9 7) (N : Nat) (Q : Int32 → zMem → Prop) (R : zRI G X cX8_busiest Q) (x1 : Int32) (x4 : Int32) (k24 : Int32 → Int32 → Int32 → zMem → Prop) (hk24 : ∀ (z2 : Int32) (z3 : Int32) (z4 : Int32) (M : zMem), k24 z2 z3 z4 M → zV G X M [(0, zR G 47), (1, .int x1), (2, .int z2), (3, .int z3), (4, .int z4)] [] 24) (k39 : Int32 → Int32 → Int32 → zMem → Prop) (hk39 : ∀ (z2 : Int32) (z3 : Int32) (z5 : Int32) (M : zMem), k39 z2 z3 z5 M → zV G X M [(0, zR G 47), (1, .int x1), (2, .int z2), (3, .int z3), (4, .int x4), (5, .int z5)] [] 39) (x2 : Int32) (x3 : Int32) (x5 : Int32) (M : zMem) (h : f_X8_busiest_b39 N k24 k39 x1 x4 x2 x3 x5 M Q) : zV G X M [(0, zR G 47), (1, .int x1), (2, .int x2), (3, .int x3), (4, .int x4), (5, .int x5)] [] 39 := by
  unfold f_X8_busiest_b39 at h
  refine zr_iload C 5 dX8_busiest_39 rfl ?_
  refine zr_aload_n C 0 dX8_busiest_41 rfl rfl ?_
  refine zg_X8_56 C zo_47 dX8_busiest_42 ?_
  refine zr_icmp_ge C 109 dX8_busiest_45 (by decide) (fun c => ?_) (fun c => ?_)
  · have h := h.1 c
    obtain ⟨v5, hv5⟩ : ∃ y : Int32, y = x4 + (1 : Int32) := ⟨_, rfl⟩
    have h := h v5 hv5
    refine zr_iinc C 4 [1, 2, 3, 4, 0] dX8_busiest_109 rfl (by rw [hv5]; rfl) (by decide) rfl (lv' := [(0, zR G 47), (1, .int x1), (2, .int x2), (3, .int x3), (4, .int v5)]) ?_
    refine zr_goto C 24 dX8_busiest_112 (by decide) ?_
    exact hk24 _ _ _ _ h
  · have h := h.2 c
    refine zr_aload_n C 0 dX8_busiest_48 rfl rfl ?_
    refine zr_iload C 4 dX8_busiest_49 rfl ?_
    refine zr_iload C 5 dX8_busiest_51 rfl ?_
    refine zcI (zrunV C (rest := []) (c_X8_spotsOf X.2.1 G N _ _ _ _ h) zk_X8_spotsOf zl_X8_227 (zRc_7 zo_47) (by decide) (by decide) rfl (Nat.le_of_ble_eq_true rfl) rfl dX8_busiest_53) (fun r6 M7 h => ?_)
    refine zr_istore C [1, 2, 3, 4, 5, 6, 0] dX8_busiest_56 (by decide) rfl (lv' := [(0, zR G 47), (1, .int x1), (2, .int x2), (3, .int x3), (4, .int x4), (5, .int x5), (6, .int r6)]) ?_
    refine zr_iload C 6 dX8_busiest_58 rfl ?_
    refine zr_iload_n C 2 dX8_busiest_60 rfl rfl ?_
    refine zr_icmp_le C 88 dX8_busiest_61 (by decide) (fun c => ?_) (fun c => ?_)
    · have h := h.1 c
      refine zr_iload_n C 3 dX8_busiest_88 rfl rfl ?_
      refine zr_sub [0, 1, 2, 4, 5, 6] rfl (lv' := [(0, zR G 47), (1, .int x1), (2, .int x2), (4, .int x4), (5, .int x5), (6, .int r6)]) ?_
      exact w_X8_busiest_b89 C N Q R _ _ _ _ _ _ _ hk24 _ hk39 _ h
    · have h := h.2 c
      refine zr_iload_n C 1 dX8_busiest_64 rfl rfl ?_
      refine zr_if_ne C 73 dX8_busiest_65 (by decide) (fun c => ?_) (fun c => ?_)
      · have h := h.1 c
        refine zr_iload_n C 1 dX8_busiest_73 rfl rfl ?_
        refine zr_iconst C (v := 1) dX8_busiest_74 (by decide) ?_
        refine zr_icmp_ne C 83 dX8_busiest_75 (by decide) (fun c => ?_) (fun c => ?_)
        · have h := h.1 c
          refine zr_iload C 6 dX8_busiest_83 rfl ?_
          refine zr_goto C 89 dX8_busiest_85 (by decide) ?_
          refine zr_sub [0, 1, 2, 4, 5, 6] rfl (lv' := [(0, zR G 47), (1, .int x1), (2, .int x2), (4, .int x4), (5, .int x5), (6, .int r6)]) ?_
          exact w_X8_busiest_b89 C N Q R _ _ _ _ _ _ _ hk24 _ hk39 _ h
        · have h := h.2 c
          refine zr_iload C 5 dX8_busiest_78 rfl ?_
          refine zr_goto C 89 dX8_busiest_80 (by decide) ?_
          refine zr_sub [0, 1, 2, 4, 5, 6] rfl (lv' := [(0, zR G 47), (1, .int x1), (2, .int x2), (4, .int x4), (5, .int x5), (6, .int r6)]) ?_
          exact w_X8_busiest_b89 C N Q R _ _ _ _ _ _ _ hk24 _ hk39 _ h
      · have h := h.2 c
        refine zr_iload C 4 dX8_busiest_68 rfl ?_
        refine zr_goto C 89 dX8_busiest_70 (by decide) ?_
        refine zr_sub [0, 1, 2, 4, 5, 6] rfl (lv' := [(0, zR G 47), (1, .int x1), (2, .int x2), (4, .int x4), (5, .int x5), (6, .int r6)]) ?_
        exact w_X8_busiest_b89 C N Q R _ _ _ _ _ _ _ hk24 _ hk39 _ h
theorem w_X8_busiest_l39 {G : zG} {X : zX} (C : zC G X cX8_busiest RX8 9 7) (N : Nat) (Q : Int32 → zMem → Prop) (R : zRI G X cX8_busiest Q) (x1 : Int32) (x4 : Int32) (k24 : Int32 → Int32 → Int32 → zMem → Prop) (hk24 : ∀ (z2 : Int32) (z3 : Int32) (z4 : Int32) (M : zMem), k24 z2 z3 z4 M → zV G X M [(0, zR G 47), (1, .int x1), (2, .int z2), (3, .int z3), (4, .int z4)] [] 24) : ∀ (n : Nat) (x2 : Int32) (x3 : Int32) (x5 : Int32) (M : zMem), f_X8_busiest_l39 N k24 x1 x4 Q n x2 x3 x5 M → zV G X M [(0, zR G 47), (1, .int x1), (2, .int x2), (3, .int x3), (4, .int x4), (5, .int x5)] [] 39 := by
  intro n
  induction n with
  | zero => intro x2 x3 x5 M h; exact h.elim
  | succ n ih =>
    intro x2 x3 x5 M h
    exact w_X8_busiest_b39 C N Q R x1 x4 k24 hk24 _ ih x2 x3 x5 M h
set_option maxHeartbeats 4000000 in
set_option maxRecDepth 100000 in
theorem w_X8_busiest_b24 {G : zG} {X : zX} (C : zC G X cX8_busiest RX8 9 7) (N : Nat) (Q : Int32 → zMem → Prop) (R : zRI G X cX8_busiest Q) (x1 : Int32) (k24 : Int32 → Int32 → Int32 → zMem → Prop) (hk24 : ∀ (z2 : Int32) (z3 : Int32) (z4 : Int32) (M : zMem), k24 z2 z3 z4 M → zV G X M [(0, zR G 47), (1, .int x1), (2, .int z2), (3, .int z3), (4, .int z4)] [] 24) (x2 : Int32) (x3 : Int32) (x4 : Int32) (M : zMem) (h : f_X8_busiest_b24 N k24 x1 x2 x3 x4 M Q) : zV G X M [(0, zR G 47), (1, .int x1), (2, .int x2), (3, .int x3), (4, .int x4)] [] 24 := by
  unfold f_X8_busiest_b24 at h
  refine zr_iload C 4 dX8_busiest_24 rfl ?_
  refine zr_aload_n C 0 dX8_busiest_26 rfl rfl ?_
  refine zg_X8_56 C zo_47 dX8_busiest_27 ?_
  refine zr_icmp_ge C 115 dX8_busiest_30 (by decide) (fun c => ?_) (fun c => ?_)
  · have h := h.1 c
    refine zr_iload_n C 3 dX8_busiest_115 rfl rfl ?_
    exact R _ _ _ _ h dX8_busiest_116
  · have h := h.2 c
    refine zr_iload C 4 dX8_busiest_33 rfl ?_
    refine zr_iconst C (v := 1) dX8_busiest_35 (by decide) ?_
    refine zr_iadd C dX8_busiest_36 ?_
    refine zr_letI (fun v4 hv4 => ?_)
    have h := h v4 hv4
    refine zr_istore C [1, 2, 3, 4, 5, 0] dX8_busiest_37 (by decide) rfl (lv' := [(0, zR G 47), (1, .int x1), (2, .int x2), (3, .int x3), (4, .int x4), (5, .int v4)]) ?_
    exact w_X8_busiest_l39 C N Q R _ _ _ hk24 N _ _ _ _ h
theorem w_X8_busiest_l24 {G : zG} {X : zX} (C : zC G X cX8_busiest RX8 9 7) (N : Nat) (Q : Int32 → zMem → Prop) (R : zRI G X cX8_busiest Q) (x1 : Int32) : ∀ (n : Nat) (x2 : Int32) (x3 : Int32) (x4 : Int32) (M : zMem), f_X8_busiest_l24 N x1 Q n x2 x3 x4 M → zV G X M [(0, zR G 47), (1, .int x1), (2, .int x2), (3, .int x3), (4, .int x4)] [] 24 := by
  intro n
  induction n with
  | zero => intro x2 x3 x4 M h; exact h.elim
  | succ n ih =>
    intro x2 x3 x4 M h
    exact w_X8_busiest_b24 C N Q R x1  _ ih x2 x3 x4 M h
set_option maxHeartbeats 4000000 in
set_option maxRecDepth 100000 in
theorem c_X8_busiest (l : Launch) (G : zG) (N : Nat) (x1 : Int32) (M : zMem) (Q : Int32 → zMem → Prop) (h : f_X8_busiest N x1 M Q) : zMI l G yX8_busiest cX8_busiest 7 .int 9 [zR G 47, .int x1] M Q := by
  refine zEI (by decide) (Nat.le_of_ble_eq_true rfl) (lv := [(0, zR G 47), (1, .int x1)]) rfl (fun X C R => ?_)
  have C : zC G X cX8_busiest RX8 9 7 := C
  unfold f_X8_busiest at h
  refine zr_aload_n C 0 dX8_busiest_0 rfl rfl ?_
  refine zr_iconst C (v := 0) dX8_busiest_1 (by decide) ?_
  refine zp_X8_60 C zo_47 dX8_busiest_2 ?_
  refine zr_letM (fun M1 hM1 => ?_)
  have h := h M1 hM1
  refine zr_iload_n C 1 dX8_busiest_5 rfl rfl ?_
  refine zr_iconst C (v := 0) dX8_busiest_6 (by decide) ?_
  refine zr_iconst C (v := 2) dX8_busiest_7 (by decide) ?_
  refine zcI (zrunS C (rest := []) (c_X8_in X.2.1 G N _ _ _ _ _ h) zk_X8_in zl_X8_63 (by decide) (by decide) rfl (Nat.le_of_ble_eq_true rfl) rfl dX8_busiest_8) (fun r2 M3 h => ?_)
  refine zr_if_ne C 16 dX8_busiest_11 (by decide) (fun c => ?_) (fun c => ?_)
  · have h := h.1 c
    refine zr_iconst C (v := -1) dX8_busiest_16 (by decide) ?_
    refine zr_istore_n C [1, 2, 0] dX8_busiest_17 rfl (by decide) rfl (lv' := [(0, zR G 47), (1, .int x1), (2, .int (-1 : Int32))]) ?_
    refine zr_bipush C (v := -9) dX8_busiest_18 (by decide) ?_
    refine zr_istore_n C [1, 2, 3, 0] dX8_busiest_20 rfl (by decide) rfl (lv' := [(0, zR G 47), (1, .int x1), (2, .int (-1 : Int32)), (3, .int (-9 : Int32))]) ?_
    refine zr_iconst C (v := 0) dX8_busiest_21 (by decide) ?_
    refine zr_istore C [1, 2, 3, 4, 0] dX8_busiest_22 (by decide) rfl (lv' := [(0, zR G 47), (1, .int x1), (2, .int (-1 : Int32)), (3, .int (-9 : Int32)), (4, .int (0 : Int32))]) ?_
    exact w_X8_busiest_l24 C N Q R _ N _ _ _ _ h
  · have h := h.2 c
    refine zr_iconst C (v := -1) dX8_busiest_14 (by decide) ?_
    exact R _ _ _ _ h dX8_busiest_15
/-! X8_notes -/
set_option maxHeartbeats 4000000 in
set_option maxRecDepth 100000 in
theorem w_X8_notes_b51 {G : zG} {X : zX} (C : zC G X cX8_notes RX8 0 2) (N : Nat) (Q : zMem → Prop) (R : zRU G X cX8_notes Q) (k51 : Int32 → zMem → Prop) (hk51 : ∀ (z1 : Int32) (M : zMem), k51 z1 M → zV G X M [(0, zR G 47), (1, .int z1)] [] 51) (x1 : Int32) (M : zMem) (h : f_X8_notes_b51 N k51 x1 M Q) : zV G X M [(0, zR G 47), (1, .int x1)] [] 51 := by
  unfold f_X8_notes_b51 at h
  refine zr_iload_n C 1 dX8_notes_51 rfl rfl ?_
  refine zr_bipush C (v := 32) dX8_notes_52 (by decide) ?_
  refine zr_icmp_ge C 83 dX8_notes_54 (by decide) (fun c => ?_) (fun c => ?_)
  · have h := h.1 c
    refine zr_aload_n C 0 dX8_notes_83 rfl rfl ?_
    refine zr_dup C rfl dX8_notes_84 ?_
    refine zg_X8_97 C zo_47 dX8_notes_85 ?_
    refine zr_iconst C (v := 1) dX8_notes_88 (by decide) ?_
    refine zr_iadd C dX8_notes_89 ?_
    refine zp_X8_97 C zo_47 dX8_notes_90 ?_
    refine zr_letM (fun M1 hM1 => ?_)
    have h := h M1 hM1
    refine zr_aload_n C 0 dX8_notes_93 rfl rfl ?_
    refine zr_iconst C (v := 0) dX8_notes_94 (by decide) ?_
    refine zp_X8_93 C zo_47 zb_0 dX8_notes_95 ?_
    refine zr_letM (fun M2 hM2 => ?_)
    have h := h M2 hM2
    exact R _ _ _ h dX8_notes_98
  · have h := h.2 c
    refine zr_aload_n C 0 dX8_notes_57 rfl rfl ?_
    refine zg_X8_13 C zo_47 dX8_notes_58 ?_
    refine zr_bipush C (v := 32) dX8_notes_61 (by decide) ?_
    refine zr_aload_n C 0 dX8_notes_63 rfl rfl ?_
    refine zg_X8_97 C zo_47 dX8_notes_64 ?_
    refine zr_imul C dX8_notes_67 ?_
    refine zr_iload_n C 1 dX8_notes_68 rfl rfl ?_
    refine zr_iadd C dX8_notes_69 ?_
    refine zr_aload_n C 0 dX8_notes_70 rfl rfl ?_
    refine zg_X8_7 C zo_47 dX8_notes_71 ?_
    refine zr_iload_n C 1 dX8_notes_74 rfl rfl ?_
    refine zr_iald C za_48 h.1 dX8_notes_75 ?_
    have h := h.2
    refine zr_iast C za_49 h.1 dX8_notes_76 ?_
    have h := h.2
    refine zr_letM (fun M3 hM3 => ?_)
    have h := h M3 hM3
    obtain ⟨v4, hv4⟩ : ∃ y : Int32, y = x1 + (1 : Int32) := ⟨_, rfl⟩
    have h := h v4 hv4
    refine zr_iinc C 1 [1, 0] dX8_notes_77 rfl (by rw [hv4]; rfl) (by decide) rfl (lv' := [(0, zR G 47), (1, .int v4)]) ?_
    refine zr_goto C 51 dX8_notes_80 (by decide) ?_
    exact hk51 _ _ h
theorem w_X8_notes_l51 {G : zG} {X : zX} (C : zC G X cX8_notes RX8 0 2) (N : Nat) (Q : zMem → Prop) (R : zRU G X cX8_notes Q)  : ∀ (n : Nat) (x1 : Int32) (M : zMem), f_X8_notes_l51 N  Q n x1 M → zV G X M [(0, zR G 47), (1, .int x1)] [] 51 := by
  intro n
  induction n with
  | zero => intro x1 M h; exact h.elim
  | succ n ih =>
    intro x1 M h
    exact w_X8_notes_b51 C N Q R   _ ih x1 M h
set_option maxHeartbeats 4000000 in
set_option maxRecDepth 100000 in
theorem w_X8_notes_b49 {G : zG} {X : zX} (C : zC G X cX8_notes RX8 0 2) (N : Nat) (Q : zMem → Prop) (R : zRU G X cX8_notes Q)  (M : zMem) (h : f_X8_notes_b49 N  M Q) : zV G X M [(0, zR G 47)] [] 49 := by
  unfold f_X8_notes_b49 at h
  refine zr_iconst C (v := 0) dX8_notes_49 (by decide) ?_
  refine zr_istore_n C [1, 0] dX8_notes_50 rfl (by decide) rfl (lv' := [(0, zR G 47), (1, .int (0 : Int32))]) ?_
  exact w_X8_notes_l51 C N Q R  N _ _ h
set_option maxHeartbeats 4000000 in
set_option maxRecDepth 100000 in
theorem w_X8_notes_b11 {G : zG} {X : zX} (C : zC G X cX8_notes RX8 0 2) (N : Nat) (Q : zMem → Prop) (R : zRU G X cX8_notes Q) (k11 : Int32 → zMem → Prop) (hk11 : ∀ (z1 : Int32) (M : zMem), k11 z1 M → zV G X M [(0, zR G 47), (1, .int z1)] [] 11) (x1 : Int32) (M : zMem) (h : f_X8_notes_b11 N k11 x1 M Q) : zV G X M [(0, zR G 47), (1, .int x1)] [] 11 := by
  unfold f_X8_notes_b11 at h
  refine zr_iload_n C 1 dX8_notes_11 rfl rfl ?_
  refine zr_sipush C (v := 288) dX8_notes_12 (by decide) ?_
  refine zr_icmp_ge C 39 dX8_notes_15 (by decide) (fun c => ?_) (fun c => ?_)
  · have h := h.1 c
    refine zr_aload_n C 0 dX8_notes_39 rfl rfl ?_
    refine zr_dup C rfl dX8_notes_40 ?_
    refine zg_X8_97 C zo_47 dX8_notes_41 ?_
    refine zr_iconst C (v := 1) dX8_notes_44 (by decide) ?_
    refine zr_isub C dX8_notes_45 ?_
    refine zp_X8_97 C zo_47 dX8_notes_46 ?_
    refine zr_letM (fun M5 hM5 => ?_)
    have h := h M5 hM5
    refine zr_sub [0] rfl (lv' := [(0, zR G 47)]) ?_
    exact w_X8_notes_b49 C N Q R  _ h
  · have h := h.2 c
    refine zr_aload_n C 0 dX8_notes_18 rfl rfl ?_
    refine zg_X8_13 C zo_47 dX8_notes_19 ?_
    refine zr_iload_n C 1 dX8_notes_22 rfl rfl ?_
    refine zr_aload_n C 0 dX8_notes_23 rfl rfl ?_
    refine zg_X8_13 C zo_47 dX8_notes_24 ?_
    refine zr_iload_n C 1 dX8_notes_27 rfl rfl ?_
    refine zr_bipush C (v := 32) dX8_notes_28 (by decide) ?_
    refine zr_iadd C dX8_notes_30 ?_
    refine zr_iald C za_49 h.1 dX8_notes_31 ?_
    have h := h.2
    refine zr_iast C za_49 h.1 dX8_notes_32 ?_
    have h := h.2
    refine zr_letM (fun M6 hM6 => ?_)
    have h := h M6 hM6
    obtain ⟨v7, hv7⟩ : ∃ y : Int32, y = x1 + (1 : Int32) := ⟨_, rfl⟩
    have h := h v7 hv7
    refine zr_iinc C 1 [1, 0] dX8_notes_33 rfl (by rw [hv7]; rfl) (by decide) rfl (lv' := [(0, zR G 47), (1, .int v7)]) ?_
    refine zr_goto C 11 dX8_notes_36 (by decide) ?_
    exact hk11 _ _ h
theorem w_X8_notes_l11 {G : zG} {X : zX} (C : zC G X cX8_notes RX8 0 2) (N : Nat) (Q : zMem → Prop) (R : zRU G X cX8_notes Q)  : ∀ (n : Nat) (x1 : Int32) (M : zMem), f_X8_notes_l11 N  Q n x1 M → zV G X M [(0, zR G 47), (1, .int x1)] [] 11 := by
  intro n
  induction n with
  | zero => intro x1 M h; exact h.elim
  | succ n ih =>
    intro x1 M h
    exact w_X8_notes_b11 C N Q R   _ ih x1 M h
set_option maxHeartbeats 4000000 in
set_option maxRecDepth 100000 in
theorem c_X8_notes (l : Launch) (G : zG) (N : Nat)  (M : zMem) (Q : zMem → Prop) (h : f_X8_notes N  M Q) : zMU l G yX8_notes cX8_notes 2 0 [zR G 47] M Q := by
  refine zEU (by decide) (Nat.le_of_ble_eq_true rfl) (lv := [(0, zR G 47)]) rfl (fun X C R => ?_)
  have C : zC G X cX8_notes RX8 0 2 := C
  unfold f_X8_notes at h
  refine zr_aload_n C 0 dX8_notes_0 rfl rfl ?_
  refine zg_X8_97 C zo_47 dX8_notes_1 ?_
  refine zr_bipush C (v := 10) dX8_notes_4 (by decide) ?_
  refine zr_icmp_ne C 49 dX8_notes_6 (by decide) (fun c => ?_) (fun c => ?_)
  · have h := h.1 c
    exact w_X8_notes_b49 C N Q R  _ h
  · have h := h.2 c
    refine zr_iconst C (v := 0) dX8_notes_9 (by decide) ?_
    refine zr_istore_n C [1, 0] dX8_notes_10 rfl (by decide) rfl (lv' := [(0, zR G 47), (1, .int (0 : Int32))]) ?_
    exact w_X8_notes_l11 C N Q R  N _ _ h
/-! X8_moves -/
set_option maxHeartbeats 4000000 in
set_option maxRecDepth 100000 in
theorem w_X8_moves_b85 {G : zG} {X : zX} (C : zC G X cX8_moves RX8 2 6) (N : Nat) (Q : Int32 → zMem → Prop) (R : zRI G X cX8_moves Q) (x3 : Int32) (x4 : Int32) (x5 : Int32) (M : zMem) (h : f_X8_moves_b85 N x3 x4 x5 M Q) : zV G X M [(0, zR G 47), (3, .int x3), (4, .int x4), (5, .int x5)] [] 85 := by
  unfold f_X8_moves_b85 at h
  refine zr_aload_n C 0 dX8_moves_85 rfl rfl ?_
  refine zcU (zrunV C (rest := []) (c_X8_notes X.2.1 G N  _ _ h) zk_X8_notes zl_X8_230 (zRc_7 zo_47) (by decide) (by decide) rfl (Nat.le_of_ble_eq_true rfl) rfl dX8_moves_86) (fun M12 h => ?_)
  refine zr_aload_n C 0 dX8_moves_89 rfl rfl ?_
  refine zg_X8_7 C zo_47 dX8_moves_90 ?_
  refine zr_iload C 3 dX8_moves_93 rfl ?_
  refine zr_iload_n C 1 dX8_moves_95 rfl rfl ?_
  refine zr_iast C za_48 h.1 dX8_moves_96 ?_
  have h := h.2
  refine zr_letM (fun M13 hM13 => ?_)
  have h := h M13 hM13
  refine zr_aload_n C 0 dX8_moves_97 rfl rfl ?_
  refine zg_X8_7 C zo_47 dX8_moves_98 ?_
  refine zr_iload C 3 dX8_moves_101 rfl ?_
  refine zr_iconst C (v := 1) dX8_moves_103 (by decide) ?_
  refine zr_iadd C dX8_moves_104 ?_
  refine zr_iload C 2 dX8_moves_105 rfl ?_
  refine zr_iast C za_48 h.1 dX8_moves_107 ?_
  have h := h.2
  refine zr_letM (fun M14 hM14 => ?_)
  have h := h M14 hM14
  refine zr_iconst C (v := 1) dX8_moves_108 (by decide) ?_
  exact R _ _ _ _ h dX8_moves_109
set_option maxHeartbeats 4000000 in
set_option maxRecDepth 100000 in
theorem c_X8_moves (l : Launch) (G : zG) (N : Nat) (x1 : Int32) (x2 : Int32) (x3 : Int32) (x4 : Int32) (M : zMem) (Q : Int32 → zMem → Prop) (h : f_X8_moves N x1 x2 x3 x4 M Q) : zMI l G yX8_moves cX8_moves 6 .int 2 [zR G 47, .int x1, .int x2, .int x3, .int x4] M Q := by
  refine zEI (by decide) (Nat.le_of_ble_eq_true rfl) (lv := [(0, zR G 47), (1, .int x1), (2, .int x2), (3, .int x3), (4, .int x4)]) rfl (fun X C R => ?_)
  have C : zC G X cX8_moves RX8 2 6 := C
  unfold f_X8_moves at h
  refine zr_aload_n C 0 dX8_moves_0 rfl rfl ?_
  refine zr_iconst C (v := 0) dX8_moves_1 (by decide) ?_
  refine zp_X8_60 C zo_47 dX8_moves_2 ?_
  refine zr_letM (fun M1 hM1 => ?_)
  have h := h M1 hM1
  refine zr_aload_n C 0 dX8_moves_5 rfl rfl ?_
  refine zr_iload_n C 1 dX8_moves_6 rfl rfl ?_
  refine zcI (zrunV C (rest := []) (c_X8_isArc X.2.1 G N _ _ _ h) zk_X8_isArc zl_X8_160 (zRc_7 zo_47) (by decide) (by decide) rfl (Nat.le_of_ble_eq_true rfl) rfl dX8_moves_7) (fun r2 M3 h => ?_)
  refine zr_if_eq C 45 dX8_moves_10 (by decide) (fun c => ?_) (fun c => ?_)
  · have h := h.1 c
    refine zr_iconst C (v := -1) dX8_moves_45 (by decide) ?_
    exact R _ _ _ _ h dX8_moves_46
  · have h := h.2 c
    refine zr_iload_n C 2 dX8_moves_13 rfl rfl ?_
    refine zr_iconst C (v := 0) dX8_moves_14 (by decide) ?_
    refine zr_iconst C (v := 3) dX8_moves_15 (by decide) ?_
    refine zcI (zrunS C (rest := []) (c_X8_in X.2.1 G N _ _ _ _ _ h) zk_X8_in zl_X8_63 (by decide) (by decide) rfl (Nat.le_of_ble_eq_true rfl) rfl dX8_moves_16) (fun r4 M5 h => ?_)
    refine zr_if_eq C 45 dX8_moves_19 (by decide) (fun c => ?_) (fun c => ?_)
    · have h := h.1 c
      refine zr_iconst C (v := -1) dX8_moves_45 (by decide) ?_
      exact R _ _ _ _ h dX8_moves_46
    · have h := h.2 c
      refine zr_iload_n C 3 dX8_moves_22 rfl rfl ?_
      refine zr_bipush C (v := -9) dX8_moves_23 (by decide) ?_
      refine zr_bipush C (v := 9) dX8_moves_25 (by decide) ?_
      refine zcI (zrunS C (rest := []) (c_X8_in X.2.1 G N _ _ _ _ _ h) zk_X8_in zl_X8_63 (by decide) (by decide) rfl (Nat.le_of_ble_eq_true rfl) rfl dX8_moves_27) (fun r6 M7 h => ?_)
      refine zr_if_eq C 45 dX8_moves_30 (by decide) (fun c => ?_) (fun c => ?_)
      · have h := h.1 c
        refine zr_iconst C (v := -1) dX8_moves_45 (by decide) ?_
        exact R _ _ _ _ h dX8_moves_46
      · have h := h.2 c
        refine zr_iload C 4 dX8_moves_33 rfl ?_
        refine zr_bipush C (v := -9) dX8_moves_35 (by decide) ?_
        refine zr_bipush C (v := 9) dX8_moves_37 (by decide) ?_
        refine zcI (zrunS C (rest := []) (c_X8_in X.2.1 G N _ _ _ _ _ h) zk_X8_in zl_X8_63 (by decide) (by decide) rfl (Nat.le_of_ble_eq_true rfl) rfl dX8_moves_39) (fun r8 M9 h => ?_)
        refine zr_if_ne C 47 dX8_moves_42 (by decide) (fun c => ?_) (fun c => ?_)
        · have h := h.1 c
          refine zr_bipush C (v := 8) dX8_moves_47 (by decide) ?_
          refine zr_iload_n C 1 dX8_moves_49 rfl rfl ?_
          refine zr_imul C dX8_moves_50 ?_
          refine zr_iconst C (v := 2) dX8_moves_51 (by decide) ?_
          refine zr_iload_n C 2 dX8_moves_52 rfl rfl ?_
          refine zr_imul C dX8_moves_53 ?_
          refine zr_iadd C dX8_moves_54 ?_
          refine zr_letI (fun v10 hv10 => ?_)
          have h := h v10 hv10
          refine zr_istore C [1, 4, 5, 0] dX8_moves_55 (by decide) rfl (lv' := [(0, zR G 47), (3, .int x3), (4, .int x4), (5, .int v10)]) ?_
          refine zr_aload_n C 0 dX8_moves_57 rfl rfl ?_
          refine zg_X8_7 C zo_47 dX8_moves_58 ?_
          refine zr_iload C 3 dX8_moves_61 rfl ?_
          refine zr_iald C za_48 h.1 dX8_moves_63 ?_
          have h := h.2
          refine zr_iload_n C 1 dX8_moves_64 rfl rfl ?_
          refine zr_icmp_ne C 85 dX8_moves_65 (by decide) (fun c => ?_) (fun c => ?_)
          · have h := h.1 c
            exact w_X8_moves_b85 C N Q R _ _ _ _ h
          · have h := h.2 c
            refine zr_aload_n C 0 dX8_moves_68 rfl rfl ?_
            refine zg_X8_7 C zo_47 dX8_moves_69 ?_
            refine zr_iload C 3 dX8_moves_72 rfl ?_
            refine zr_iconst C (v := 1) dX8_moves_74 (by decide) ?_
            refine zr_iadd C dX8_moves_75 ?_
            refine zr_iald C za_48 h.1 dX8_moves_76 ?_
            have h := h.2
            refine zr_iload C 2 dX8_moves_77 rfl ?_
            refine zr_icmp_ne C 85 dX8_moves_79 (by decide) (fun c => ?_) (fun c => ?_)
            · have h := h.1 c
              exact w_X8_moves_b85 C N Q R _ _ _ _ h
            · have h := h.2 c
              refine zr_bipush C (v := -2) dX8_moves_82 (by decide) ?_
              exact R _ _ _ _ h dX8_moves_84
        · have h := h.2 c
          refine zr_iconst C (v := -1) dX8_moves_45 (by decide) ?_
          exact R _ _ _ _ h dX8_moves_46
/-! X8_shifts -/
set_option maxHeartbeats 4000000 in
set_option maxRecDepth 100000 in
theorem w_X8_shifts_b126 {G : zG} {X : zX} (C : zC G X cX8_shifts RX8 2 5) (N : Nat) (Q : Int32 → zMem → Prop) (R : zRI G X cX8_shifts Q) (x1 : Int32) (x2 : Int32) (x3 : Int32) (k126 : Int32 → zMem → Prop) (hk126 : ∀ (z4 : Int32) (M : zMem), k126 z4 M → zV G X M [(0, zR G 47), (1, .int x1), (2, .int x2), (3, .int x3), (4, .int z4)] [] 126) (x4 : Int32) (M : zMem) (h : f_X8_shifts_b126 N k126 x1 x2 x3 x4 M Q) : zV G X M [(0, zR G 47), (1, .int x1), (2, .int x2), (3, .int x3), (4, .int x4)] [] 126 := by
  unfold f_X8_shifts_b126 at h
  refine zr_iload C 4 dX8_shifts_126 rfl ?_
  refine zr_iconst C (v := 4) dX8_shifts_128 (by decide) ?_
  refine zr_icmp_ge C 176 dX8_shifts_129 (by decide) (fun c => ?_) (fun c => ?_)
  · have h := h.1 c
    refine zr_iconst C (v := 1) dX8_shifts_176 (by decide) ?_
    exact R _ _ _ _ h dX8_shifts_177
  · have h := h.2 c
    refine zr_aload_n C 0 dX8_shifts_132 rfl rfl ?_
    refine zg_X8_7 C zo_47 dX8_shifts_133 ?_
    refine zr_bipush C (v := 8) dX8_shifts_136 (by decide) ?_
    refine zr_iload_n C 1 dX8_shifts_138 rfl rfl ?_
    refine zr_imul C dX8_shifts_139 ?_
    refine zr_iconst C (v := 2) dX8_shifts_140 (by decide) ?_
    refine zr_iload C 4 dX8_shifts_141 rfl ?_
    refine zr_imul C dX8_shifts_143 ?_
    refine zr_iadd C dX8_shifts_144 ?_
    refine zr_dup2 C rfl rfl dX8_shifts_145 ?_
    refine zr_iald C za_48 h.1 dX8_shifts_146 ?_
    have h := h.2
    refine zr_iload_n C 2 dX8_shifts_147 rfl rfl ?_
    refine zr_iadd C dX8_shifts_148 ?_
    refine zr_iast C za_48 h.1 dX8_shifts_149 ?_
    have h := h.2
    refine zr_letM (fun M10 hM10 => ?_)
    have h := h M10 hM10
    refine zr_aload_n C 0 dX8_shifts_150 rfl rfl ?_
    refine zg_X8_7 C zo_47 dX8_shifts_151 ?_
    refine zr_bipush C (v := 8) dX8_shifts_154 (by decide) ?_
    refine zr_iload_n C 1 dX8_shifts_156 rfl rfl ?_
    refine zr_imul C dX8_shifts_157 ?_
    refine zr_iconst C (v := 2) dX8_shifts_158 (by decide) ?_
    refine zr_iload C 4 dX8_shifts_159 rfl ?_
    refine zr_imul C dX8_shifts_161 ?_
    refine zr_iadd C dX8_shifts_162 ?_
    refine zr_iconst C (v := 1) dX8_shifts_163 (by decide) ?_
    refine zr_iadd C dX8_shifts_164 ?_
    refine zr_dup2 C rfl rfl dX8_shifts_165 ?_
    refine zr_iald C za_48 h.1 dX8_shifts_166 ?_
    have h := h.2
    refine zr_iload_n C 3 dX8_shifts_167 rfl rfl ?_
    refine zr_iadd C dX8_shifts_168 ?_
    refine zr_iast C za_48 h.1 dX8_shifts_169 ?_
    have h := h.2
    refine zr_letM (fun M11 hM11 => ?_)
    have h := h M11 hM11
    obtain ⟨v12, hv12⟩ : ∃ y : Int32, y = x4 + (1 : Int32) := ⟨_, rfl⟩
    have h := h v12 hv12
    refine zr_iinc C 4 [1, 2, 3, 4, 0] dX8_shifts_170 rfl (by rw [hv12]; rfl) (by decide) rfl (lv' := [(0, zR G 47), (1, .int x1), (2, .int x2), (3, .int x3), (4, .int v12)]) ?_
    refine zr_goto C 126 dX8_shifts_173 (by decide) ?_
    exact hk126 _ _ h
theorem w_X8_shifts_l126 {G : zG} {X : zX} (C : zC G X cX8_shifts RX8 2 5) (N : Nat) (Q : Int32 → zMem → Prop) (R : zRI G X cX8_shifts Q) (x1 : Int32) (x2 : Int32) (x3 : Int32) : ∀ (n : Nat) (x4 : Int32) (M : zMem), f_X8_shifts_l126 N x1 x2 x3 Q n x4 M → zV G X M [(0, zR G 47), (1, .int x1), (2, .int x2), (3, .int x3), (4, .int x4)] [] 126 := by
  intro n
  induction n with
  | zero => intro x4 M h; exact h.elim
  | succ n ih =>
    intro x4 M h
    exact w_X8_shifts_b126 C N Q R x1 x2 x3  _ ih x4 M h
set_option maxHeartbeats 4000000 in
set_option maxRecDepth 100000 in
theorem w_X8_shifts_b119 {G : zG} {X : zX} (C : zC G X cX8_shifts RX8 2 5) (N : Nat) (Q : Int32 → zMem → Prop) (R : zRI G X cX8_shifts Q) (x1 : Int32) (x2 : Int32) (x3 : Int32) (M : zMem) (h : f_X8_shifts_b119 N x1 x2 x3 M Q) : zV G X M [(0, zR G 47), (1, .int x1), (2, .int x2), (3, .int x3)] [] 119 := by
  unfold f_X8_shifts_b119 at h
  refine zr_aload_n C 0 dX8_shifts_119 rfl rfl ?_
  refine zcU (zrunV C (rest := []) (c_X8_notes X.2.1 G N  _ _ h) zk_X8_notes zl_X8_230 (zRc_7 zo_47) (by decide) (by decide) rfl (Nat.le_of_ble_eq_true rfl) rfl dX8_shifts_120) (fun M9 h => ?_)
  refine zr_iconst C (v := 0) dX8_shifts_123 (by decide) ?_
  refine zr_istore C [1, 2, 3, 4, 0] dX8_shifts_124 (by decide) rfl (lv' := [(0, zR G 47), (1, .int x1), (2, .int x2), (3, .int x3), (4, .int (0 : Int32))]) ?_
  exact w_X8_shifts_l126 C N Q R _ _ _ N _ _ h
set_option maxHeartbeats 4000000 in
set_option maxRecDepth 100000 in
theorem w_X8_shifts_b40 {G : zG} {X : zX} (C : zC G X cX8_shifts RX8 2 5) (N : Nat) (Q : Int32 → zMem → Prop) (R : zRI G X cX8_shifts Q) (x1 : Int32) (x2 : Int32) (x3 : Int32) (k40 : Int32 → zMem → Prop) (hk40 : ∀ (z4 : Int32) (M : zMem), k40 z4 M → zV G X M [(0, zR G 47), (1, .int x1), (2, .int x2), (3, .int x3), (4, .int z4)] [] 40) (x4 : Int32) (M : zMem) (h : f_X8_shifts_b40 N k40 x1 x2 x3 x4 M Q) : zV G X M [(0, zR G 47), (1, .int x1), (2, .int x2), (3, .int x3), (4, .int x4)] [] 40 := by
  unfold f_X8_shifts_b40 at h
  refine zr_iload C 4 dX8_shifts_40 rfl ?_
  refine zr_iconst C (v := 4) dX8_shifts_42 (by decide) ?_
  refine zr_icmp_ge C 108 dX8_shifts_43 (by decide) (fun c => ?_) (fun c => ?_)
  · have h := h.1 c
    refine zr_iload_n C 2 dX8_shifts_108 rfl rfl ?_
    refine zr_if_ne C 119 dX8_shifts_109 (by decide) (fun c => ?_) (fun c => ?_)
    · have h := h.1 c
      refine zr_sub [0, 1, 2, 3] rfl (lv' := [(0, zR G 47), (1, .int x1), (2, .int x2), (3, .int x3)]) ?_
      exact w_X8_shifts_b119 C N Q R _ _ _ _ h
    · have h := h.2 c
      refine zr_iload_n C 3 dX8_shifts_112 rfl rfl ?_
      refine zr_if_ne C 119 dX8_shifts_113 (by decide) (fun c => ?_) (fun c => ?_)
      · have h := h.1 c
        refine zr_sub [0, 1, 2, 3] rfl (lv' := [(0, zR G 47), (1, .int x1), (2, .int x2), (3, .int x3)]) ?_
        exact w_X8_shifts_b119 C N Q R _ _ _ _ h
      · have h := h.2 c
        refine zr_bipush C (v := -2) dX8_shifts_116 (by decide) ?_
        exact R _ _ _ _ h dX8_shifts_118
  · have h := h.2 c
    refine zr_aload_n C 0 dX8_shifts_46 rfl rfl ?_
    refine zg_X8_7 C zo_47 dX8_shifts_47 ?_
    refine zr_bipush C (v := 8) dX8_shifts_50 (by decide) ?_
    refine zr_iload_n C 1 dX8_shifts_52 rfl rfl ?_
    refine zr_imul C dX8_shifts_53 ?_
    refine zr_iconst C (v := 2) dX8_shifts_54 (by decide) ?_
    refine zr_iload C 4 dX8_shifts_55 rfl ?_
    refine zr_imul C dX8_shifts_57 ?_
    refine zr_iadd C dX8_shifts_58 ?_
    refine zr_iald C za_48 h.1 dX8_shifts_59 ?_
    have h := h.2
    refine zr_iload_n C 2 dX8_shifts_60 rfl rfl ?_
    refine zr_iadd C dX8_shifts_61 ?_
    refine zr_bipush C (v := -9) dX8_shifts_62 (by decide) ?_
    refine zr_bipush C (v := 9) dX8_shifts_64 (by decide) ?_
    refine zcI (zrunS C (rest := []) (c_X8_in X.2.1 G N _ _ _ _ _ h) zk_X8_in zl_X8_63 (by decide) (by decide) rfl (Nat.le_of_ble_eq_true rfl) rfl dX8_shifts_66) (fun r13 M14 h => ?_)
    refine zr_if_eq C 100 dX8_shifts_69 (by decide) (fun c => ?_) (fun c => ?_)
    · have h := h.1 c
      refine zr_iconst C (v := -1) dX8_shifts_100 (by decide) ?_
      exact R _ _ _ _ h dX8_shifts_101
    · have h := h.2 c
      refine zr_aload_n C 0 dX8_shifts_72 rfl rfl ?_
      refine zg_X8_7 C zo_47 dX8_shifts_73 ?_
      refine zr_bipush C (v := 8) dX8_shifts_76 (by decide) ?_
      refine zr_iload_n C 1 dX8_shifts_78 rfl rfl ?_
      refine zr_imul C dX8_shifts_79 ?_
      refine zr_iconst C (v := 2) dX8_shifts_80 (by decide) ?_
      refine zr_iload C 4 dX8_shifts_81 rfl ?_
      refine zr_imul C dX8_shifts_83 ?_
      refine zr_iadd C dX8_shifts_84 ?_
      refine zr_iconst C (v := 1) dX8_shifts_85 (by decide) ?_
      refine zr_iadd C dX8_shifts_86 ?_
      refine zr_iald C za_48 h.1 dX8_shifts_87 ?_
      have h := h.2
      refine zr_iload_n C 3 dX8_shifts_88 rfl rfl ?_
      refine zr_iadd C dX8_shifts_89 ?_
      refine zr_bipush C (v := -9) dX8_shifts_90 (by decide) ?_
      refine zr_bipush C (v := 9) dX8_shifts_92 (by decide) ?_
      refine zcI (zrunS C (rest := []) (c_X8_in X.2.1 G N _ _ _ _ _ h) zk_X8_in zl_X8_63 (by decide) (by decide) rfl (Nat.le_of_ble_eq_true rfl) rfl dX8_shifts_94) (fun r15 M16 h => ?_)
      refine zr_if_ne C 102 dX8_shifts_97 (by decide) (fun c => ?_) (fun c => ?_)
      · have h := h.1 c
        obtain ⟨v17, hv17⟩ : ∃ y : Int32, y = x4 + (1 : Int32) := ⟨_, rfl⟩
        have h := h v17 hv17
        refine zr_iinc C 4 [1, 2, 3, 4, 0] dX8_shifts_102 rfl (by rw [hv17]; rfl) (by decide) rfl (lv' := [(0, zR G 47), (1, .int x1), (2, .int x2), (3, .int x3), (4, .int v17)]) ?_
        refine zr_goto C 40 dX8_shifts_105 (by decide) ?_
        exact hk40 _ _ h
      · have h := h.2 c
        refine zr_iconst C (v := -1) dX8_shifts_100 (by decide) ?_
        exact R _ _ _ _ h dX8_shifts_101
theorem w_X8_shifts_l40 {G : zG} {X : zX} (C : zC G X cX8_shifts RX8 2 5) (N : Nat) (Q : Int32 → zMem → Prop) (R : zRI G X cX8_shifts Q) (x1 : Int32) (x2 : Int32) (x3 : Int32) : ∀ (n : Nat) (x4 : Int32) (M : zMem), f_X8_shifts_l40 N x1 x2 x3 Q n x4 M → zV G X M [(0, zR G 47), (1, .int x1), (2, .int x2), (3, .int x3), (4, .int x4)] [] 40 := by
  intro n
  induction n with
  | zero => intro x4 M h; exact h.elim
  | succ n ih =>
    intro x4 M h
    exact w_X8_shifts_b40 C N Q R x1 x2 x3  _ ih x4 M h
set_option maxHeartbeats 4000000 in
set_option maxRecDepth 100000 in
theorem c_X8_shifts (l : Launch) (G : zG) (N : Nat) (x1 : Int32) (x2 : Int32) (x3 : Int32) (M : zMem) (Q : Int32 → zMem → Prop) (h : f_X8_shifts N x1 x2 x3 M Q) : zMI l G yX8_shifts cX8_shifts 5 .int 2 [zR G 47, .int x1, .int x2, .int x3] M Q := by
  refine zEI (by decide) (Nat.le_of_ble_eq_true rfl) (lv := [(0, zR G 47), (1, .int x1), (2, .int x2), (3, .int x3)]) rfl (fun X C R => ?_)
  have C : zC G X cX8_shifts RX8 2 5 := C
  unfold f_X8_shifts at h
  refine zr_aload_n C 0 dX8_shifts_0 rfl rfl ?_
  refine zr_iconst C (v := 0) dX8_shifts_1 (by decide) ?_
  refine zp_X8_60 C zo_47 dX8_shifts_2 ?_
  refine zr_letM (fun M1 hM1 => ?_)
  have h := h M1 hM1
  refine zr_aload_n C 0 dX8_shifts_5 rfl rfl ?_
  refine zr_iload_n C 1 dX8_shifts_6 rfl rfl ?_
  refine zcI (zrunV C (rest := []) (c_X8_isArc X.2.1 G N _ _ _ h) zk_X8_isArc zl_X8_160 (zRc_7 zo_47) (by decide) (by decide) rfl (Nat.le_of_ble_eq_true rfl) rfl dX8_shifts_7) (fun r2 M3 h => ?_)
  refine zr_if_eq C 35 dX8_shifts_10 (by decide) (fun c => ?_) (fun c => ?_)
  · have h := h.1 c
    refine zr_iconst C (v := -1) dX8_shifts_35 (by decide) ?_
    exact R _ _ _ _ h dX8_shifts_36
  · have h := h.2 c
    refine zr_iload_n C 2 dX8_shifts_13 rfl rfl ?_
    refine zr_bipush C (v := -18) dX8_shifts_14 (by decide) ?_
    refine zr_bipush C (v := 18) dX8_shifts_16 (by decide) ?_
    refine zcI (zrunS C (rest := []) (c_X8_in X.2.1 G N _ _ _ _ _ h) zk_X8_in zl_X8_63 (by decide) (by decide) rfl (Nat.le_of_ble_eq_true rfl) rfl dX8_shifts_18) (fun r4 M5 h => ?_)
    refine zr_if_eq C 35 dX8_shifts_21 (by decide) (fun c => ?_) (fun c => ?_)
    · have h := h.1 c
      refine zr_iconst C (v := -1) dX8_shifts_35 (by decide) ?_
      exact R _ _ _ _ h dX8_shifts_36
    · have h := h.2 c
      refine zr_iload_n C 3 dX8_shifts_24 rfl rfl ?_
      refine zr_bipush C (v := -18) dX8_shifts_25 (by decide) ?_
      refine zr_bipush C (v := 18) dX8_shifts_27 (by decide) ?_
      refine zcI (zrunS C (rest := []) (c_X8_in X.2.1 G N _ _ _ _ _ h) zk_X8_in zl_X8_63 (by decide) (by decide) rfl (Nat.le_of_ble_eq_true rfl) rfl dX8_shifts_29) (fun r6 M7 h => ?_)
      refine zr_if_ne C 37 dX8_shifts_32 (by decide) (fun c => ?_) (fun c => ?_)
      · have h := h.1 c
        refine zr_iconst C (v := 0) dX8_shifts_37 (by decide) ?_
        refine zr_istore C [1, 2, 3, 4, 0] dX8_shifts_38 (by decide) rfl (lv' := [(0, zR G 47), (1, .int x1), (2, .int x2), (3, .int x3), (4, .int (0 : Int32))]) ?_
        exact w_X8_shifts_l40 C N Q R _ _ _ N _ _ h
      · have h := h.2 c
        refine zr_iconst C (v := -1) dX8_shifts_35 (by decide) ?_
        exact R _ _ _ _ h dX8_shifts_36
/-! X8_reverses -/
set_option maxHeartbeats 4000000 in
set_option maxRecDepth 100000 in
theorem w_X8_reverses_b21 {G : zG} {X : zX} (C : zC G X cX8_reverses RX8 2 6) (N : Nat) (Q : Int32 → zMem → Prop) (R : zRI G X cX8_reverses Q) (x1 : Int32) (k21 : Int32 → zMem → Prop) (hk21 : ∀ (z2 : Int32) (M : zMem), k21 z2 M → zV G X M [(0, zR G 47), (1, .int x1), (2, .int z2)] [] 21) (x2 : Int32) (M : zMem) (h : f_X8_reverses_b21 N k21 x1 x2 M Q) : zV G X M [(0, zR G 47), (1, .int x1), (2, .int x2)] [] 21 := by
  unfold f_X8_reverses_b21 at h
  refine zr_iload_n C 2 dX8_reverses_21 rfl rfl ?_
  refine zr_iconst C (v := 4) dX8_reverses_22 (by decide) ?_
  refine zr_icmp_ge C 88 dX8_reverses_23 (by decide) (fun c => ?_) (fun c => ?_)
  · have h := h.1 c
    refine zr_iconst C (v := 1) dX8_reverses_88 (by decide) ?_
    exact R _ _ _ _ h dX8_reverses_89
  · have h := h.2 c
    refine zr_bipush C (v := 8) dX8_reverses_26 (by decide) ?_
    refine zr_iload_n C 1 dX8_reverses_28 rfl rfl ?_
    refine zr_imul C dX8_reverses_29 ?_
    refine zr_iload_n C 2 dX8_reverses_30 rfl rfl ?_
    refine zr_iadd C dX8_reverses_31 ?_
    refine zr_letI (fun v6 hv6 => ?_)
    have h := h v6 hv6
    refine zr_istore_n C [1, 2, 3, 0] dX8_reverses_32 rfl (by decide) rfl (lv' := [(0, zR G 47), (1, .int x1), (2, .int x2), (3, .int v6)]) ?_
    refine zr_bipush C (v := 8) dX8_reverses_33 (by decide) ?_
    refine zr_iload_n C 1 dX8_reverses_35 rfl rfl ?_
    refine zr_imul C dX8_reverses_36 ?_
    refine zr_bipush C (v := 6) dX8_reverses_37 (by decide) ?_
    refine zr_iadd C dX8_reverses_39 ?_
    refine zr_iload_n C 2 dX8_reverses_40 rfl rfl ?_
    refine zr_iconst C (v := 2) dX8_reverses_41 (by decide) ?_
    refine zr_idiv C dX8_reverses_42 (by decide) ?_
    refine zr_iconst C (v := 2) dX8_reverses_43 (by decide) ?_
    refine zr_imul C dX8_reverses_44 ?_
    refine zr_isub C dX8_reverses_45 ?_
    refine zr_iload_n C 2 dX8_reverses_46 rfl rfl ?_
    refine zr_iconst C (v := 2) dX8_reverses_47 (by decide) ?_
    refine zr_irem C dX8_reverses_48 (by decide) ?_
    refine zr_iadd C dX8_reverses_49 ?_
    refine zr_letI (fun v7 hv7 => ?_)
    have h := h v7 hv7
    refine zr_istore C [1, 2, 3, 4, 0] dX8_reverses_50 (by decide) rfl (lv' := [(0, zR G 47), (1, .int x1), (2, .int x2), (3, .int v6), (4, .int v7)]) ?_
    refine zr_aload_n C 0 dX8_reverses_52 rfl rfl ?_
    refine zg_X8_7 C zo_47 dX8_reverses_53 ?_
    refine zr_iload_n C 3 dX8_reverses_56 rfl rfl ?_
    refine zr_iald C za_48 h.1 dX8_reverses_57 ?_
    have h := h.2
    refine zr_letI (fun v8 hv8 => ?_)
    have h := h v8 hv8
    refine zr_istore C [1, 2, 3, 4, 5, 0] dX8_reverses_58 (by decide) rfl (lv' := [(0, zR G 47), (1, .int x1), (2, .int x2), (3, .int v6), (4, .int v7), (5, .int v8)]) ?_
    refine zr_aload_n C 0 dX8_reverses_60 rfl rfl ?_
    refine zg_X8_7 C zo_47 dX8_reverses_61 ?_
    refine zr_iload_n C 3 dX8_reverses_64 rfl rfl ?_
    refine zr_aload_n C 0 dX8_reverses_65 rfl rfl ?_
    refine zg_X8_7 C zo_47 dX8_reverses_66 ?_
    refine zr_iload C 4 dX8_reverses_69 rfl ?_
    refine zr_iald C za_48 h.1 dX8_reverses_71 ?_
    have h := h.2
    refine zr_iast C za_48 h.1 dX8_reverses_72 ?_
    have h := h.2
    refine zr_letM (fun M9 hM9 => ?_)
    have h := h M9 hM9
    refine zr_aload_n C 0 dX8_reverses_73 rfl rfl ?_
    refine zg_X8_7 C zo_47 dX8_reverses_74 ?_
    refine zr_iload C 4 dX8_reverses_77 rfl ?_
    refine zr_iload C 5 dX8_reverses_79 rfl ?_
    refine zr_iast C za_48 h.1 dX8_reverses_81 ?_
    have h := h.2
    refine zr_letM (fun M10 hM10 => ?_)
    have h := h M10 hM10
    obtain ⟨v11, hv11⟩ : ∃ y : Int32, y = x2 + (1 : Int32) := ⟨_, rfl⟩
    have h := h v11 hv11
    refine zr_iinc C 2 [1, 2, 0] dX8_reverses_82 rfl (by rw [hv11]; rfl) (by decide) rfl (lv' := [(0, zR G 47), (1, .int x1), (2, .int v11)]) ?_
    refine zr_goto C 21 dX8_reverses_85 (by decide) ?_
    exact hk21 _ _ h
theorem w_X8_reverses_l21 {G : zG} {X : zX} (C : zC G X cX8_reverses RX8 2 6) (N : Nat) (Q : Int32 → zMem → Prop) (R : zRI G X cX8_reverses Q) (x1 : Int32) : ∀ (n : Nat) (x2 : Int32) (M : zMem), f_X8_reverses_l21 N x1 Q n x2 M → zV G X M [(0, zR G 47), (1, .int x1), (2, .int x2)] [] 21 := by
  intro n
  induction n with
  | zero => intro x2 M h; exact h.elim
  | succ n ih =>
    intro x2 M h
    exact w_X8_reverses_b21 C N Q R x1  _ ih x2 M h
set_option maxHeartbeats 4000000 in
set_option maxRecDepth 100000 in
theorem c_X8_reverses (l : Launch) (G : zG) (N : Nat) (x1 : Int32) (M : zMem) (Q : Int32 → zMem → Prop) (h : f_X8_reverses N x1 M Q) : zMI l G yX8_reverses cX8_reverses 6 .int 2 [zR G 47, .int x1] M Q := by
  refine zEI (by decide) (Nat.le_of_ble_eq_true rfl) (lv := [(0, zR G 47), (1, .int x1)]) rfl (fun X C R => ?_)
  have C : zC G X cX8_reverses RX8 2 6 := C
  unfold f_X8_reverses at h
  refine zr_aload_n C 0 dX8_reverses_0 rfl rfl ?_
  refine zr_iconst C (v := 0) dX8_reverses_1 (by decide) ?_
  refine zp_X8_60 C zo_47 dX8_reverses_2 ?_
  refine zr_letM (fun M1 hM1 => ?_)
  have h := h M1 hM1
  refine zr_aload_n C 0 dX8_reverses_5 rfl rfl ?_
  refine zr_iload_n C 1 dX8_reverses_6 rfl rfl ?_
  refine zcI (zrunV C (rest := []) (c_X8_isArc X.2.1 G N _ _ _ h) zk_X8_isArc zl_X8_160 (zRc_7 zo_47) (by decide) (by decide) rfl (Nat.le_of_ble_eq_true rfl) rfl dX8_reverses_7) (fun r2 M3 h => ?_)
  refine zr_if_ne C 15 dX8_reverses_10 (by decide) (fun c => ?_) (fun c => ?_)
  · have h := h.1 c
    refine zr_aload_n C 0 dX8_reverses_15 rfl rfl ?_
    refine zcU (zrunV C (rest := []) (c_X8_notes X.2.1 G N  _ _ h) zk_X8_notes zl_X8_230 (zRc_7 zo_47) (by decide) (by decide) rfl (Nat.le_of_ble_eq_true rfl) rfl dX8_reverses_16) (fun M5 h => ?_)
    refine zr_iconst C (v := 0) dX8_reverses_19 (by decide) ?_
    refine zr_istore_n C [1, 2, 0] dX8_reverses_20 rfl (by decide) rfl (lv' := [(0, zR G 47), (1, .int x1), (2, .int (0 : Int32))]) ?_
    exact w_X8_reverses_l21 C N Q R _ N _ _ h
  · have h := h.2 c
    refine zr_iconst C (v := -1) dX8_reverses_13 (by decide) ?_
    exact R _ _ _ _ h dX8_reverses_14
/-! X8_undo -/
set_option maxHeartbeats 4000000 in
set_option maxRecDepth 100000 in
theorem w_X8_undo_b27 {G : zG} {X : zX} (C : zC G X cX8_undo RX8 0 2) (N : Nat) (Q : Int32 → zMem → Prop) (R : zRI G X cX8_undo Q) (k27 : Int32 → zMem → Prop) (hk27 : ∀ (z1 : Int32) (M : zMem), k27 z1 M → zV G X M [(0, zR G 47), (1, .int z1)] [] 27) (x1 : Int32) (M : zMem) (h : f_X8_undo_b27 N k27 x1 M Q) : zV G X M [(0, zR G 47), (1, .int x1)] [] 27 := by
  unfold f_X8_undo_b27 at h
  refine zr_iload_n C 1 dX8_undo_27 rfl rfl ?_
  refine zr_bipush C (v := 32) dX8_undo_28 (by decide) ?_
  refine zr_icmp_ge C 59 dX8_undo_30 (by decide) (fun c => ?_) (fun c => ?_)
  · have h := h.1 c
    refine zr_aload_n C 0 dX8_undo_59 rfl rfl ?_
    refine zr_iconst C (v := 0) dX8_undo_60 (by decide) ?_
    refine zp_X8_93 C zo_47 zb_0 dX8_undo_61 ?_
    refine zr_letM (fun M3 hM3 => ?_)
    have h := h M3 hM3
    refine zr_aload_n C 0 dX8_undo_64 rfl rfl ?_
    refine zg_X8_97 C zo_47 dX8_undo_65 ?_
    exact R _ _ _ _ h dX8_undo_68
  · have h := h.2 c
    refine zr_aload_n C 0 dX8_undo_33 rfl rfl ?_
    refine zg_X8_7 C zo_47 dX8_undo_34 ?_
    refine zr_iload_n C 1 dX8_undo_37 rfl rfl ?_
    refine zr_aload_n C 0 dX8_undo_38 rfl rfl ?_
    refine zg_X8_13 C zo_47 dX8_undo_39 ?_
    refine zr_bipush C (v := 32) dX8_undo_42 (by decide) ?_
    refine zr_aload_n C 0 dX8_undo_44 rfl rfl ?_
    refine zg_X8_97 C zo_47 dX8_undo_45 ?_
    refine zr_imul C dX8_undo_48 ?_
    refine zr_iload_n C 1 dX8_undo_49 rfl rfl ?_
    refine zr_iadd C dX8_undo_50 ?_
    refine zr_iald C za_49 h.1 dX8_undo_51 ?_
    have h := h.2
    refine zr_iast C za_48 h.1 dX8_undo_52 ?_
    have h := h.2
    refine zr_letM (fun M4 hM4 => ?_)
    have h := h M4 hM4
    obtain ⟨v5, hv5⟩ : ∃ y : Int32, y = x1 + (1 : Int32) := ⟨_, rfl⟩
    have h := h v5 hv5
    refine zr_iinc C 1 [1, 0] dX8_undo_53 rfl (by rw [hv5]; rfl) (by decide) rfl (lv' := [(0, zR G 47), (1, .int v5)]) ?_
    refine zr_goto C 27 dX8_undo_56 (by decide) ?_
    exact hk27 _ _ h
theorem w_X8_undo_l27 {G : zG} {X : zX} (C : zC G X cX8_undo RX8 0 2) (N : Nat) (Q : Int32 → zMem → Prop) (R : zRI G X cX8_undo Q)  : ∀ (n : Nat) (x1 : Int32) (M : zMem), f_X8_undo_l27 N  Q n x1 M → zV G X M [(0, zR G 47), (1, .int x1)] [] 27 := by
  intro n
  induction n with
  | zero => intro x1 M h; exact h.elim
  | succ n ih =>
    intro x1 M h
    exact w_X8_undo_b27 C N Q R   _ ih x1 M h
set_option maxHeartbeats 4000000 in
set_option maxRecDepth 100000 in
theorem c_X8_undo (l : Launch) (G : zG) (N : Nat)  (M : zMem) (Q : Int32 → zMem → Prop) (h : f_X8_undo N  M Q) : zMI l G yX8_undo cX8_undo 2 .int 0 [zR G 47] M Q := by
  refine zEI (by decide) (Nat.le_of_ble_eq_true rfl) (lv := [(0, zR G 47)]) rfl (fun X C R => ?_)
  have C : zC G X cX8_undo RX8 0 2 := C
  unfold f_X8_undo at h
  refine zr_aload_n C 0 dX8_undo_0 rfl rfl ?_
  refine zr_iconst C (v := 0) dX8_undo_1 (by decide) ?_
  refine zp_X8_60 C zo_47 dX8_undo_2 ?_
  refine zr_letM (fun M1 hM1 => ?_)
  have h := h M1 hM1
  refine zr_aload_n C 0 dX8_undo_5 rfl rfl ?_
  refine zg_X8_97 C zo_47 dX8_undo_6 ?_
  refine zr_if_ne C 15 dX8_undo_9 (by decide) (fun c => ?_) (fun c => ?_)
  · have h := h.1 c
    refine zr_aload_n C 0 dX8_undo_15 rfl rfl ?_
    refine zr_dup C rfl dX8_undo_16 ?_
    refine zg_X8_97 C zo_47 dX8_undo_17 ?_
    refine zr_iconst C (v := 1) dX8_undo_20 (by decide) ?_
    refine zr_isub C dX8_undo_21 ?_
    refine zp_X8_97 C zo_47 dX8_undo_22 ?_
    refine zr_letM (fun M2 hM2 => ?_)
    have h := h M2 hM2
    refine zr_iconst C (v := 0) dX8_undo_25 (by decide) ?_
    refine zr_istore_n C [1, 0] dX8_undo_26 rfl (by decide) rfl (lv' := [(0, zR G 47), (1, .int (0 : Int32))]) ?_
    exact w_X8_undo_l27 C N Q R  N _ _ h
  · have h := h.2 c
    refine zr_bipush C (v := -2) dX8_undo_12 (by decide) ?_
    exact R _ _ _ _ h dX8_undo_14
/-! X8_sees -/
set_option maxHeartbeats 4000000 in
set_option maxRecDepth 100000 in
theorem c_X8_sees (l : Launch) (G : zG) (N : Nat) (x1 : Int32) (x2 : Int32) (M : zMem) (Q : Int32 → zMem → Prop) (h : f_X8_sees N x1 x2 M Q) : zMI l G yX8_sees cX8_sees 3 .int 2 [zR G 47, .int x1, .int x2] M Q := by
  refine zEI (by decide) (Nat.le_of_ble_eq_true rfl) (lv := [(0, zR G 47), (1, .int x1), (2, .int x2)]) rfl (fun X C R => ?_)
  have C : zC G X cX8_sees RX8 2 3 := C
  unfold f_X8_sees at h
  refine zr_aload_n C 0 dX8_sees_0 rfl rfl ?_
  refine zr_iconst C (v := 0) dX8_sees_1 (by decide) ?_
  refine zp_X8_60 C zo_47 dX8_sees_2 ?_
  refine zr_letM (fun M1 hM1 => ?_)
  have h := h M1 hM1
  refine zr_aload_n C 0 dX8_sees_5 rfl rfl ?_
  refine zr_iload_n C 1 dX8_sees_6 rfl rfl ?_
  refine zcI (zrunV C (rest := []) (c_X8_isArc X.2.1 G N _ _ _ h) zk_X8_isArc zl_X8_160 (zRc_7 zo_47) (by decide) (by decide) rfl (Nat.le_of_ble_eq_true rfl) rfl dX8_sees_7) (fun r2 M3 h => ?_)
  refine zr_if_eq C 23 dX8_sees_10 (by decide) (fun c => ?_) (fun c => ?_)
  · have h := h.1 c
    refine zr_iconst C (v := -1) dX8_sees_23 (by decide) ?_
    exact R _ _ _ _ h dX8_sees_24
  · have h := h.2 c
    refine zr_iload_n C 2 dX8_sees_13 rfl rfl ?_
    refine zr_iconst C (v := 0) dX8_sees_14 (by decide) ?_
    refine zr_bipush C (v := 101) dX8_sees_15 (by decide) ?_
    refine zcI (zrunS C (rest := []) (c_X8_in X.2.1 G N _ _ _ _ _ h) zk_X8_in zl_X8_63 (by decide) (by decide) rfl (Nat.le_of_ble_eq_true rfl) rfl dX8_sees_17) (fun r4 M5 h => ?_)
    refine zr_if_ne C 25 dX8_sees_20 (by decide) (fun c => ?_) (fun c => ?_)
    · have h := h.1 c
      refine zr_aload_n C 0 dX8_sees_25 rfl rfl ?_
      refine zg_X8_100 C zo_47 dX8_sees_26 ?_
      refine zr_bipush C (v := 6) dX8_sees_29 (by decide) ?_
      refine zr_icmp_ne C 37 dX8_sees_31 (by decide) (fun c => ?_) (fun c => ?_)
      · have h := h.1 c
        refine zr_aload_n C 0 dX8_sees_37 rfl rfl ?_
        refine zg_X8_23 C zo_47 dX8_sees_38 ?_
        refine zr_aload_n C 0 dX8_sees_41 rfl rfl ?_
        refine zg_X8_100 C zo_47 dX8_sees_42 ?_
        refine zr_iload_n C 1 dX8_sees_45 rfl rfl ?_
        refine zr_iast C za_52 h.1 dX8_sees_46 ?_
        have h := h.2
        refine zr_letM (fun M6 hM6 => ?_)
        have h := h M6 hM6
        refine zr_aload_n C 0 dX8_sees_47 rfl rfl ?_
        refine zg_X8_26 C zo_47 dX8_sees_48 ?_
        refine zr_aload_n C 0 dX8_sees_51 rfl rfl ?_
        refine zg_X8_100 C zo_47 dX8_sees_52 ?_
        refine zr_iload_n C 2 dX8_sees_55 rfl rfl ?_
        refine zr_iast C za_53 h.1 dX8_sees_56 ?_
        have h := h.2
        refine zr_letM (fun M7 hM7 => ?_)
        have h := h M7 hM7
        refine zr_aload_n C 0 dX8_sees_57 rfl rfl ?_
        refine zr_dup C rfl dX8_sees_58 ?_
        refine zg_X8_100 C zo_47 dX8_sees_59 ?_
        refine zr_iconst C (v := 1) dX8_sees_62 (by decide) ?_
        refine zr_iadd C dX8_sees_63 ?_
        refine zp_X8_100 C zo_47 dX8_sees_64 ?_
        refine zr_letM (fun M8 hM8 => ?_)
        have h := h M8 hM8
        refine zr_aload_n C 0 dX8_sees_67 rfl rfl ?_
        refine zg_X8_100 C zo_47 dX8_sees_68 ?_
        exact R _ _ _ _ h dX8_sees_71
      · have h := h.2 c
        refine zr_bipush C (v := -3) dX8_sees_34 (by decide) ?_
        exact R _ _ _ _ h dX8_sees_36
    · have h := h.2 c
      refine zr_iconst C (v := -1) dX8_sees_23 (by decide) ?_
      exact R _ _ _ _ h dX8_sees_24
/-! X8_forget -/
set_option maxHeartbeats 4000000 in
set_option maxRecDepth 100000 in
theorem c_X8_forget (l : Launch) (G : zG) (N : Nat)  (M : zMem) (Q : Int32 → zMem → Prop) (h : f_X8_forget N  M Q) : zMI l G yX8_forget cX8_forget 2 .int 0 [zR G 47] M Q := by
  refine zEI (by decide) (Nat.le_of_ble_eq_true rfl) (lv := [(0, zR G 47)]) rfl (fun X C R => ?_)
  have C : zC G X cX8_forget RX8 0 2 := C
  unfold f_X8_forget at h
  refine zr_aload_n C 0 dX8_forget_0 rfl rfl ?_
  refine zr_iconst C (v := 0) dX8_forget_1 (by decide) ?_
  refine zp_X8_60 C zo_47 dX8_forget_2 ?_
  refine zr_letM (fun M1 hM1 => ?_)
  have h := h M1 hM1
  refine zr_aload_n C 0 dX8_forget_5 rfl rfl ?_
  refine zg_X8_100 C zo_47 dX8_forget_6 ?_
  refine zr_letI (fun v2 hv2 => ?_)
  have h := h v2 hv2
  refine zr_istore_n C [1, 0] dX8_forget_9 rfl (by decide) rfl (lv' := [(0, zR G 47), (1, .int v2)]) ?_
  refine zr_aload_n C 0 dX8_forget_10 rfl rfl ?_
  refine zr_iconst C (v := 0) dX8_forget_11 (by decide) ?_
  refine zp_X8_100 C zo_47 dX8_forget_12 ?_
  refine zr_letM (fun M3 hM3 => ?_)
  have h := h M3 hM3
  refine zr_iload_n C 1 dX8_forget_15 rfl rfl ?_
  exact R _ _ _ _ h dX8_forget_16
/-! X8_unseen -/
set_option maxHeartbeats 4000000 in
set_option maxRecDepth 100000 in
theorem w_X8_unseen_b81 {G : zG} {X : zX} (C : zC G X cX8_unseen RX8 9 5) (N : Nat) (Q : Int32 → zMem → Prop) (R : zRI G X cX8_unseen Q) (x2 : Int32) (s0 : Int32) (s1 : Int32) (k9 : Int32 → Int32 → zMem → Prop) (hk9 : ∀ (z1 : Int32) (z2 : Int32) (M : zMem), k9 z1 z2 M → zV G X M [(0, zR G 47), (1, .int z1), (2, .int z2)] [] 9) (M : zMem) (h : f_X8_unseen_b81 N k9 x2 s0 s1 M Q) : zV G X M [(0, zR G 47), (2, .int x2)] [.int s1, .int s0] 81 := by
  unfold f_X8_unseen_b81 at h
  refine zr_ior C dX8_unseen_81 ?_
  refine zr_letI (fun v2 hv2 => ?_)
  have h := h v2 hv2
  refine zr_istore_n C [1, 0, 2] dX8_unseen_82 rfl (by decide) rfl (lv' := [(0, zR G 47), (1, .int v2), (2, .int x2)]) ?_
  obtain ⟨v3, hv3⟩ : ∃ y : Int32, y = x2 + (1 : Int32) := ⟨_, rfl⟩
  have h := h v3 hv3
  refine zr_iinc C 2 [1, 2, 0] dX8_unseen_83 rfl (by rw [hv3]; rfl) (by decide) rfl (lv' := [(0, zR G 47), (1, .int v2), (2, .int v3)]) ?_
  refine zr_goto C 9 dX8_unseen_86 (by decide) ?_
  exact hk9 _ _ _ h
set_option maxHeartbeats 4000000 in
set_option maxRecDepth 100000 in
theorem w_X8_unseen_b69 {G : zG} {X : zX} (C : zC G X cX8_unseen RX8 9 5) (N : Nat) (Q : Int32 → zMem → Prop) (R : zRI G X cX8_unseen Q) (x1 : Int32) (x2 : Int32) (x3 : Int32) (k9 : Int32 → Int32 → zMem → Prop) (hk9 : ∀ (z1 : Int32) (z2 : Int32) (M : zMem), k9 z1 z2 M → zV G X M [(0, zR G 47), (1, .int z1), (2, .int z2)] [] 9) (M : zMem) (h : f_X8_unseen_b69 N k9 x1 x2 x3 M Q) : zV G X M [(0, zR G 47), (1, .int x1), (2, .int x2), (3, .int x3)] [] 69 := by
  unfold f_X8_unseen_b69 at h
  refine zr_iload_n C 1 dX8_unseen_69 rfl rfl ?_
  refine zr_iload_n C 3 dX8_unseen_70 rfl rfl ?_
  refine zr_if_eq C 80 dX8_unseen_71 (by decide) (fun c => ?_) (fun c => ?_)
  · have h := h.1 c
    refine zr_iconst C (v := 0) dX8_unseen_80 (by decide) ?_
    refine zr_sub [0, 2] rfl (lv' := [(0, zR G 47), (2, .int x2)]) ?_
    exact w_X8_unseen_b81 C N Q R _ _ _ _ hk9 _ h
  · have h := h.2 c
    refine zr_iconst C (v := 1) dX8_unseen_74 (by decide) ?_
    refine zr_iload_n C 2 dX8_unseen_75 rfl rfl ?_
    refine zr_ishl C dX8_unseen_76 ?_
    refine zr_goto C 81 dX8_unseen_77 (by decide) ?_
    refine zr_sub [0, 2] rfl (lv' := [(0, zR G 47), (2, .int x2)]) ?_
    exact w_X8_unseen_b81 C N Q R _ _ _ _ hk9 _ h
set_option maxHeartbeats 4000000 in
set_option maxRecDepth 100000 in
theorem w_X8_unseen_b62 {G : zG} {X : zX} (C : zC G X cX8_unseen RX8 9 5) (N : Nat) (Q : Int32 → zMem → Prop) (R : zRI G X cX8_unseen Q) (x1 : Int32) (x2 : Int32) (x4 : Int32) (s0 : Int32) (k9 : Int32 → Int32 → zMem → Prop) (hk9 : ∀ (z1 : Int32) (z2 : Int32) (M : zMem), k9 z1 z2 M → zV G X M [(0, zR G 47), (1, .int z1), (2, .int z2)] [] 9) (k22 : Int32 → Int32 → zMem → Prop) (hk22 : ∀ (z3 : Int32) (z4 : Int32) (M : zMem), k22 z3 z4 M → zV G X M [(0, zR G 47), (1, .int x1), (2, .int x2), (3, .int z3), (4, .int z4)] [] 22) (M : zMem) (h : f_X8_unseen_b62 N k9 k22 x1 x2 x4 s0 M Q) : zV G X M [(0, zR G 47), (1, .int x1), (2, .int x2), (4, .int x4)] [.int s0] 62 := by
  unfold f_X8_unseen_b62 at h
  refine zr_istore_n C [1, 2, 3, 0, 4] dX8_unseen_62 rfl (by decide) rfl (lv' := [(0, zR G 47), (1, .int x1), (2, .int x2), (3, .int s0), (4, .int x4)]) ?_
  obtain ⟨v6, hv6⟩ : ∃ y : Int32, y = x4 + (1 : Int32) := ⟨_, rfl⟩
  have h := h v6 hv6
  refine zr_iinc C 4 [1, 2, 3, 4, 0] dX8_unseen_63 rfl (by rw [hv6]; rfl) (by decide) rfl (lv' := [(0, zR G 47), (1, .int x1), (2, .int x2), (3, .int s0), (4, .int v6)]) ?_
  refine zr_goto C 22 dX8_unseen_66 (by decide) ?_
  exact hk22 _ _ _ h
set_option maxHeartbeats 4000000 in
set_option maxRecDepth 100000 in
theorem w_X8_unseen_b22 {G : zG} {X : zX} (C : zC G X cX8_unseen RX8 9 5) (N : Nat) (Q : Int32 → zMem → Prop) (R : zRI G X cX8_unseen Q) (x1 : Int32) (x2 : Int32) (k9 : Int32 → Int32 → zMem → Prop) (hk9 : ∀ (z1 : Int32) (z2 : Int32) (M : zMem), k9 z1 z2 M → zV G X M [(0, zR G 47), (1, .int z1), (2, .int z2)] [] 9) (k22 : Int32 → Int32 → zMem → Prop) (hk22 : ∀ (z3 : Int32) (z4 : Int32) (M : zMem), k22 z3 z4 M → zV G X M [(0, zR G 47), (1, .int x1), (2, .int x2), (3, .int z3), (4, .int z4)] [] 22) (x3 : Int32) (x4 : Int32) (M : zMem) (h : f_X8_unseen_b22 N k9 k22 x1 x2 x3 x4 M Q) : zV G X M [(0, zR G 47), (1, .int x1), (2, .int x2), (3, .int x3), (4, .int x4)] [] 22 := by
  unfold f_X8_unseen_b22 at h
  refine zr_iload C 4 dX8_unseen_22 rfl ?_
  refine zr_aload_n C 0 dX8_unseen_24 rfl rfl ?_
  refine zg_X8_100 C zo_47 dX8_unseen_25 ?_
  refine zr_icmp_ge C 69 dX8_unseen_28 (by decide) (fun c => ?_) (fun c => ?_)
  · have h := h.1 c
    refine zr_sub [0, 1, 2, 3] rfl (lv' := [(0, zR G 47), (1, .int x1), (2, .int x2), (3, .int x3)]) ?_
    exact w_X8_unseen_b69 C N Q R _ _ _ _ hk9 _ h
  · have h := h.2 c
    refine zr_iload_n C 3 dX8_unseen_31 rfl rfl ?_
    refine zr_if_eq C 69 dX8_unseen_32 (by decide) (fun c => ?_) (fun c => ?_)
    · have h := h.1 c
      refine zr_sub [0, 1, 2, 3] rfl (lv' := [(0, zR G 47), (1, .int x1), (2, .int x2), (3, .int x3)]) ?_
      exact w_X8_unseen_b69 C N Q R _ _ _ _ hk9 _ h
    · have h := h.2 c
      refine zr_aload_n C 0 dX8_unseen_35 rfl rfl ?_
      refine zr_iload_n C 2 dX8_unseen_36 rfl rfl ?_
      refine zr_aload_n C 0 dX8_unseen_37 rfl rfl ?_
      refine zg_X8_23 C zo_47 dX8_unseen_38 ?_
      refine zr_iload C 4 dX8_unseen_41 rfl ?_
      refine zr_iald C za_52 h.1 dX8_unseen_43 ?_
      have h := h.2
      refine zcI (zrunV C (rest := []) (c_X8_spotsOf X.2.1 G N _ _ _ _ h) zk_X8_spotsOf zl_X8_227 (zRc_7 zo_47) (by decide) (by decide) rfl (Nat.le_of_ble_eq_true rfl) rfl dX8_unseen_44) (fun r4 M5 h => ?_)
      refine zr_aload_n C 0 dX8_unseen_47 rfl rfl ?_
      refine zg_X8_26 C zo_47 dX8_unseen_48 ?_
      refine zr_iload C 4 dX8_unseen_51 rfl ?_
      refine zr_iald C za_53 h.1 dX8_unseen_53 ?_
      have h := h.2
      refine zr_icmp_ne C 61 dX8_unseen_54 (by decide) (fun c => ?_) (fun c => ?_)
      · have h := h.1 c
        refine zr_iconst C (v := 0) dX8_unseen_61 (by decide) ?_
        refine zr_sub [0, 1, 2, 4] rfl (lv' := [(0, zR G 47), (1, .int x1), (2, .int x2), (4, .int x4)]) ?_
        exact w_X8_unseen_b62 C N Q R _ _ _ _ _ hk9 _ hk22 _ h
      · have h := h.2 c
        refine zr_iconst C (v := 1) dX8_unseen_57 (by decide) ?_
        refine zr_goto C 62 dX8_unseen_58 (by decide) ?_
        refine zr_sub [0, 1, 2, 4] rfl (lv' := [(0, zR G 47), (1, .int x1), (2, .int x2), (4, .int x4)]) ?_
        exact w_X8_unseen_b62 C N Q R _ _ _ _ _ hk9 _ hk22 _ h
theorem w_X8_unseen_l22 {G : zG} {X : zX} (C : zC G X cX8_unseen RX8 9 5) (N : Nat) (Q : Int32 → zMem → Prop) (R : zRI G X cX8_unseen Q) (x1 : Int32) (x2 : Int32) (k9 : Int32 → Int32 → zMem → Prop) (hk9 : ∀ (z1 : Int32) (z2 : Int32) (M : zMem), k9 z1 z2 M → zV G X M [(0, zR G 47), (1, .int z1), (2, .int z2)] [] 9) : ∀ (n : Nat) (x3 : Int32) (x4 : Int32) (M : zMem), f_X8_unseen_l22 N k9 x1 x2 Q n x3 x4 M → zV G X M [(0, zR G 47), (1, .int x1), (2, .int x2), (3, .int x3), (4, .int x4)] [] 22 := by
  intro n
  induction n with
  | zero => intro x3 x4 M h; exact h.elim
  | succ n ih =>
    intro x3 x4 M h
    exact w_X8_unseen_b22 C N Q R x1 x2 k9 hk9 _ ih x3 x4 M h
set_option maxHeartbeats 4000000 in
set_option maxRecDepth 100000 in
theorem w_X8_unseen_b9 {G : zG} {X : zX} (C : zC G X cX8_unseen RX8 9 5) (N : Nat) (Q : Int32 → zMem → Prop) (R : zRI G X cX8_unseen Q) (k9 : Int32 → Int32 → zMem → Prop) (hk9 : ∀ (z1 : Int32) (z2 : Int32) (M : zMem), k9 z1 z2 M → zV G X M [(0, zR G 47), (1, .int z1), (2, .int z2)] [] 9) (x1 : Int32) (x2 : Int32) (M : zMem) (h : f_X8_unseen_b9 N k9 x1 x2 M Q) : zV G X M [(0, zR G 47), (1, .int x1), (2, .int x2)] [] 9 := by
  unfold f_X8_unseen_b9 at h
  refine zr_iload_n C 2 dX8_unseen_9 rfl rfl ?_
  refine zr_aload_n C 0 dX8_unseen_10 rfl rfl ?_
  refine zg_X8_56 C zo_47 dX8_unseen_11 ?_
  refine zr_icmp_ge C 89 dX8_unseen_14 (by decide) (fun c => ?_) (fun c => ?_)
  · have h := h.1 c
    refine zr_iload_n C 1 dX8_unseen_89 rfl rfl ?_
    exact R _ _ _ _ h dX8_unseen_90
  · have h := h.2 c
    refine zr_iconst C (v := 1) dX8_unseen_17 (by decide) ?_
    refine zr_istore_n C [1, 2, 3, 0] dX8_unseen_18 rfl (by decide) rfl (lv' := [(0, zR G 47), (1, .int x1), (2, .int x2), (3, .int (1 : Int32))]) ?_
    refine zr_iconst C (v := 0) dX8_unseen_19 (by decide) ?_
    refine zr_istore C [1, 2, 3, 4, 0] dX8_unseen_20 (by decide) rfl (lv' := [(0, zR G 47), (1, .int x1), (2, .int x2), (3, .int (1 : Int32)), (4, .int (0 : Int32))]) ?_
    exact w_X8_unseen_l22 C N Q R _ _ _ hk9 N _ _ _ h
theorem w_X8_unseen_l9 {G : zG} {X : zX} (C : zC G X cX8_unseen RX8 9 5) (N : Nat) (Q : Int32 → zMem → Prop) (R : zRI G X cX8_unseen Q)  : ∀ (n : Nat) (x1 : Int32) (x2 : Int32) (M : zMem), f_X8_unseen_l9 N  Q n x1 x2 M → zV G X M [(0, zR G 47), (1, .int x1), (2, .int x2)] [] 9 := by
  intro n
  induction n with
  | zero => intro x1 x2 M h; exact h.elim
  | succ n ih =>
    intro x1 x2 M h
    exact w_X8_unseen_b9 C N Q R   _ ih x1 x2 M h
set_option maxHeartbeats 4000000 in
set_option maxRecDepth 100000 in
theorem c_X8_unseen (l : Launch) (G : zG) (N : Nat)  (M : zMem) (Q : Int32 → zMem → Prop) (h : f_X8_unseen N  M Q) : zMI l G yX8_unseen cX8_unseen 5 .int 9 [zR G 47] M Q := by
  refine zEI (by decide) (Nat.le_of_ble_eq_true rfl) (lv := [(0, zR G 47)]) rfl (fun X C R => ?_)
  have C : zC G X cX8_unseen RX8 9 5 := C
  unfold f_X8_unseen at h
  refine zr_aload_n C 0 dX8_unseen_0 rfl rfl ?_
  refine zr_iconst C (v := 0) dX8_unseen_1 (by decide) ?_
  refine zp_X8_60 C zo_47 dX8_unseen_2 ?_
  refine zr_letM (fun M1 hM1 => ?_)
  have h := h M1 hM1
  refine zr_iconst C (v := 0) dX8_unseen_5 (by decide) ?_
  refine zr_istore_n C [1, 0] dX8_unseen_6 rfl (by decide) rfl (lv' := [(0, zR G 47), (1, .int (0 : Int32))]) ?_
  refine zr_iconst C (v := 0) dX8_unseen_7 (by decide) ?_
  refine zr_istore_n C [1, 2, 0] dX8_unseen_8 rfl (by decide) rfl (lv' := [(0, zR G 47), (1, .int (0 : Int32)), (2, .int (0 : Int32))]) ?_
  exact w_X8_unseen_l9 C N Q R  N _ _ _ h
/-! X8_keep -/
set_option maxHeartbeats 4000000 in
set_option maxRecDepth 100000 in
theorem w_X8_keep_b18 {G : zG} {X : zX} (C : zC G X cX8_keep RX8 1 3) (N : Nat) (Q : Int32 → zMem → Prop) (R : zRI G X cX8_keep Q) (x1 : Int32) (k18 : Int32 → zMem → Prop) (hk18 : ∀ (z2 : Int32) (M : zMem), k18 z2 M → zV G X M [(0, zR G 47), (1, .int x1), (2, .int z2)] [] 18) (x2 : Int32) (M : zMem) (h : f_X8_keep_b18 N k18 x1 x2 M Q) : zV G X M [(0, zR G 47), (1, .int x1), (2, .int x2)] [] 18 := by
  unfold f_X8_keep_b18 at h
  refine zr_iload_n C 2 dX8_keep_18 rfl rfl ?_
  refine zr_bipush C (v := 32) dX8_keep_19 (by decide) ?_
  refine zr_icmp_ge C 47 dX8_keep_21 (by decide) (fun c => ?_) (fun c => ?_)
  · have h := h.1 c
    refine zr_aload_n C 0 dX8_keep_47 rfl rfl ?_
    refine zg_X8_19 C zo_47 dX8_keep_48 ?_
    refine zr_iload_n C 1 dX8_keep_51 rfl rfl ?_
    refine zr_iconst C (v := 1) dX8_keep_52 (by decide) ?_
    refine zr_zast C za_51 h.1 dX8_keep_53 ?_
    have h := h.2
    refine zr_letM (fun M4 hM4 => ?_)
    have h := h M4 hM4
    refine zr_aload_n C 0 dX8_keep_54 rfl rfl ?_
    refine zg_X8_56 C zo_47 dX8_keep_55 ?_
    exact R _ _ _ _ h dX8_keep_58
  · have h := h.2 c
    refine zr_aload_n C 0 dX8_keep_24 rfl rfl ?_
    refine zg_X8_16 C zo_47 dX8_keep_25 ?_
    refine zr_bipush C (v := 32) dX8_keep_28 (by decide) ?_
    refine zr_iload_n C 1 dX8_keep_30 rfl rfl ?_
    refine zr_imul C dX8_keep_31 ?_
    refine zr_iload_n C 2 dX8_keep_32 rfl rfl ?_
    refine zr_iadd C dX8_keep_33 ?_
    refine zr_aload_n C 0 dX8_keep_34 rfl rfl ?_
    refine zg_X8_7 C zo_47 dX8_keep_35 ?_
    refine zr_iload_n C 2 dX8_keep_38 rfl rfl ?_
    refine zr_iald C za_48 h.1 dX8_keep_39 ?_
    have h := h.2
    refine zr_iast C za_50 h.1 dX8_keep_40 ?_
    have h := h.2
    refine zr_letM (fun M5 hM5 => ?_)
    have h := h M5 hM5
    obtain ⟨v6, hv6⟩ : ∃ y : Int32, y = x2 + (1 : Int32) := ⟨_, rfl⟩
    have h := h v6 hv6
    refine zr_iinc C 2 [1, 2, 0] dX8_keep_41 rfl (by rw [hv6]; rfl) (by decide) rfl (lv' := [(0, zR G 47), (1, .int x1), (2, .int v6)]) ?_
    refine zr_goto C 18 dX8_keep_44 (by decide) ?_
    exact hk18 _ _ h
theorem w_X8_keep_l18 {G : zG} {X : zX} (C : zC G X cX8_keep RX8 1 3) (N : Nat) (Q : Int32 → zMem → Prop) (R : zRI G X cX8_keep Q) (x1 : Int32) : ∀ (n : Nat) (x2 : Int32) (M : zMem), f_X8_keep_l18 N x1 Q n x2 M → zV G X M [(0, zR G 47), (1, .int x1), (2, .int x2)] [] 18 := by
  intro n
  induction n with
  | zero => intro x2 M h; exact h.elim
  | succ n ih =>
    intro x2 M h
    exact w_X8_keep_b18 C N Q R x1  _ ih x2 M h
set_option maxHeartbeats 4000000 in
set_option maxRecDepth 100000 in
theorem c_X8_keep (l : Launch) (G : zG) (N : Nat) (x1 : Int32) (M : zMem) (Q : Int32 → zMem → Prop) (h : f_X8_keep N x1 M Q) : zMI l G yX8_keep cX8_keep 3 .int 1 [zR G 47, .int x1] M Q := by
  refine zEI (by decide) (Nat.le_of_ble_eq_true rfl) (lv := [(0, zR G 47), (1, .int x1)]) rfl (fun X C R => ?_)
  have C : zC G X cX8_keep RX8 1 3 := C
  unfold f_X8_keep at h
  refine zr_aload_n C 0 dX8_keep_0 rfl rfl ?_
  refine zr_iconst C (v := 0) dX8_keep_1 (by decide) ?_
  refine zp_X8_60 C zo_47 dX8_keep_2 ?_
  refine zr_letM (fun M1 hM1 => ?_)
  have h := h M1 hM1
  refine zr_iload_n C 1 dX8_keep_5 rfl rfl ?_
  refine zr_iconst C (v := 0) dX8_keep_6 (by decide) ?_
  refine zr_iconst C (v := 1) dX8_keep_7 (by decide) ?_
  refine zcI (zrunS C (rest := []) (c_X8_in X.2.1 G N _ _ _ _ _ h) zk_X8_in zl_X8_63 (by decide) (by decide) rfl (Nat.le_of_ble_eq_true rfl) rfl dX8_keep_8) (fun r2 M3 h => ?_)
  refine zr_if_ne C 16 dX8_keep_11 (by decide) (fun c => ?_) (fun c => ?_)
  · have h := h.1 c
    refine zr_iconst C (v := 0) dX8_keep_16 (by decide) ?_
    refine zr_istore_n C [1, 2, 0] dX8_keep_17 rfl (by decide) rfl (lv' := [(0, zR G 47), (1, .int x1), (2, .int (0 : Int32))]) ?_
    exact w_X8_keep_l18 C N Q R _ N _ _ h
  · have h := h.2 c
    refine zr_iconst C (v := -1) dX8_keep_14 (by decide) ?_
    exact R _ _ _ _ h dX8_keep_15
/-! X8_back -/
set_option maxHeartbeats 4000000 in
set_option maxRecDepth 100000 in
theorem w_X8_back_b30 {G : zG} {X : zX} (C : zC G X cX8_back RX8 1 3) (N : Nat) (Q : Int32 → zMem → Prop) (R : zRI G X cX8_back Q) (x1 : Int32) (k30 : Int32 → zMem → Prop) (hk30 : ∀ (z2 : Int32) (M : zMem), k30 z2 M → zV G X M [(0, zR G 47), (1, .int x1), (2, .int z2)] [] 30) (x2 : Int32) (M : zMem) (h : f_X8_back_b30 N k30 x1 x2 M Q) : zV G X M [(0, zR G 47), (1, .int x1), (2, .int x2)] [] 30 := by
  unfold f_X8_back_b30 at h
  refine zr_iload_n C 2 dX8_back_30 rfl rfl ?_
  refine zr_bipush C (v := 32) dX8_back_31 (by decide) ?_
  refine zr_icmp_ge C 59 dX8_back_33 (by decide) (fun c => ?_) (fun c => ?_)
  · have h := h.1 c
    refine zr_aload_n C 0 dX8_back_59 rfl rfl ?_
    refine zr_iconst C (v := 0) dX8_back_60 (by decide) ?_
    refine zp_X8_93 C zo_47 zb_0 dX8_back_61 ?_
    refine zr_letM (fun M4 hM4 => ?_)
    have h := h M4 hM4
    refine zr_aload_n C 0 dX8_back_64 rfl rfl ?_
    refine zr_iconst C (v := 0) dX8_back_65 (by decide) ?_
    refine zp_X8_97 C zo_47 dX8_back_66 ?_
    refine zr_letM (fun M5 hM5 => ?_)
    have h := h M5 hM5
    refine zr_aload_n C 0 dX8_back_69 rfl rfl ?_
    refine zg_X8_56 C zo_47 dX8_back_70 ?_
    exact R _ _ _ _ h dX8_back_73
  · have h := h.2 c
    refine zr_aload_n C 0 dX8_back_36 rfl rfl ?_
    refine zg_X8_7 C zo_47 dX8_back_37 ?_
    refine zr_iload_n C 2 dX8_back_40 rfl rfl ?_
    refine zr_aload_n C 0 dX8_back_41 rfl rfl ?_
    refine zg_X8_16 C zo_47 dX8_back_42 ?_
    refine zr_bipush C (v := 32) dX8_back_45 (by decide) ?_
    refine zr_iload_n C 1 dX8_back_47 rfl rfl ?_
    refine zr_imul C dX8_back_48 ?_
    refine zr_iload_n C 2 dX8_back_49 rfl rfl ?_
    refine zr_iadd C dX8_back_50 ?_
    refine zr_iald C za_50 h.1 dX8_back_51 ?_
    have h := h.2
    refine zr_iast C za_48 h.1 dX8_back_52 ?_
    have h := h.2
    refine zr_letM (fun M6 hM6 => ?_)
    have h := h M6 hM6
    obtain ⟨v7, hv7⟩ : ∃ y : Int32, y = x2 + (1 : Int32) := ⟨_, rfl⟩
    have h := h v7 hv7
    refine zr_iinc C 2 [1, 2, 0] dX8_back_53 rfl (by rw [hv7]; rfl) (by decide) rfl (lv' := [(0, zR G 47), (1, .int x1), (2, .int v7)]) ?_
    refine zr_goto C 30 dX8_back_56 (by decide) ?_
    exact hk30 _ _ h
theorem w_X8_back_l30 {G : zG} {X : zX} (C : zC G X cX8_back RX8 1 3) (N : Nat) (Q : Int32 → zMem → Prop) (R : zRI G X cX8_back Q) (x1 : Int32) : ∀ (n : Nat) (x2 : Int32) (M : zMem), f_X8_back_l30 N x1 Q n x2 M → zV G X M [(0, zR G 47), (1, .int x1), (2, .int x2)] [] 30 := by
  intro n
  induction n with
  | zero => intro x2 M h; exact h.elim
  | succ n ih =>
    intro x2 M h
    exact w_X8_back_b30 C N Q R x1  _ ih x2 M h
set_option maxHeartbeats 4000000 in
set_option maxRecDepth 100000 in
theorem c_X8_back (l : Launch) (G : zG) (N : Nat) (x1 : Int32) (M : zMem) (Q : Int32 → zMem → Prop) (h : f_X8_back N x1 M Q) : zMI l G yX8_back cX8_back 3 .int 1 [zR G 47, .int x1] M Q := by
  refine zEI (by decide) (Nat.le_of_ble_eq_true rfl) (lv := [(0, zR G 47), (1, .int x1)]) rfl (fun X C R => ?_)
  have C : zC G X cX8_back RX8 1 3 := C
  unfold f_X8_back at h
  refine zr_aload_n C 0 dX8_back_0 rfl rfl ?_
  refine zr_iconst C (v := 0) dX8_back_1 (by decide) ?_
  refine zp_X8_60 C zo_47 dX8_back_2 ?_
  refine zr_letM (fun M1 hM1 => ?_)
  have h := h M1 hM1
  refine zr_iload_n C 1 dX8_back_5 rfl rfl ?_
  refine zr_iconst C (v := 0) dX8_back_6 (by decide) ?_
  refine zr_iconst C (v := 1) dX8_back_7 (by decide) ?_
  refine zcI (zrunS C (rest := []) (c_X8_in X.2.1 G N _ _ _ _ _ h) zk_X8_in zl_X8_63 (by decide) (by decide) rfl (Nat.le_of_ble_eq_true rfl) rfl dX8_back_8) (fun r2 M3 h => ?_)
  refine zr_if_ne C 16 dX8_back_11 (by decide) (fun c => ?_) (fun c => ?_)
  · have h := h.1 c
    refine zr_aload_n C 0 dX8_back_16 rfl rfl ?_
    refine zg_X8_19 C zo_47 dX8_back_17 ?_
    refine zr_iload_n C 1 dX8_back_20 rfl rfl ?_
    refine zr_zald C za_51 h.1 dX8_back_21 ?_
    have h := h.2
    refine zr_if_ne C 28 dX8_back_22 (by decide) (fun c => ?_) (fun c => ?_)
    · have h := h.1 c
      refine zr_iconst C (v := 0) dX8_back_28 (by decide) ?_
      refine zr_istore_n C [1, 2, 0] dX8_back_29 rfl (by decide) rfl (lv' := [(0, zR G 47), (1, .int x1), (2, .int (0 : Int32))]) ?_
      exact w_X8_back_l30 C N Q R _ N _ _ h
    · have h := h.2 c
      refine zr_bipush C (v := -2) dX8_back_25 (by decide) ?_
      exact R _ _ _ _ h dX8_back_27
  · have h := h.2 c
    refine zr_iconst C (v := -1) dX8_back_14 (by decide) ?_
    exact R _ _ _ _ h dX8_back_15
/-! X8_count -/
set_option maxHeartbeats 4000000 in
set_option maxRecDepth 100000 in
theorem c_X8_count (l : Launch) (G : zG) (N : Nat) (x1 : Int32) (M : zMem) (Q : Int32 → zMem → Prop) (h : f_X8_count N x1 M Q) : zMI l G yX8_count cX8_count 2 .int 0 [zR G 47, .int x1] M Q := by
  refine zEI (by decide) (Nat.le_of_ble_eq_true rfl) (lv := [(0, zR G 47), (1, .int x1)]) rfl (fun X C R => ?_)
  have C : zC G X cX8_count RX8 0 2 := C
  unfold f_X8_count at h
  refine zr_aload_n C 0 dX8_count_0 rfl rfl ?_
  refine zr_iconst C (v := 0) dX8_count_1 (by decide) ?_
  refine zp_X8_60 C zo_47 dX8_count_2 ?_
  refine zr_letM (fun M1 hM1 => ?_)
  have h := h M1 hM1
  refine zr_iload_n C 1 dX8_count_5 rfl rfl ?_
  rcases zsw_cases x1 3 (by decide) with c | ⟨j, cj, c⟩
  · have h := h.2.2.2.2 c
    refine zr_tableOut C 56 dX8_count_6 c (by decide) ?_
    refine zr_iconst C (v := -1) dX8_count_56 (by decide) ?_
    exact R _ _ _ _ h dX8_count_57
  · match j, cj, c with
    | 0, _, c =>
      have c : x1 = (0 : Int32) := c
      have h := h.1 c
      refine zr_tableIn C 36 dX8_count_6 (off := 30) (by rw [c] <;> decide) (by rw [c] <;> decide) (by rw [c] <;> decide) (by decide) ?_
      refine zr_aload_n C 0 dX8_count_36 rfl rfl ?_
      refine zg_X8_56 C zo_47 dX8_count_37 ?_
      exact R _ _ _ _ h dX8_count_40
    | 1, _, c =>
      have c : x1 = (1 : Int32) := c
      have h := h.2.1 c
      refine zr_tableIn C 41 dX8_count_6 (off := 35) (by rw [c] <;> decide) (by rw [c] <;> decide) (by rw [c] <;> decide) (by decide) ?_
      refine zr_aload_n C 0 dX8_count_41 rfl rfl ?_
      refine zg_X8_100 C zo_47 dX8_count_42 ?_
      exact R _ _ _ _ h dX8_count_45
    | 2, _, c =>
      have c : x1 = (2 : Int32) := c
      have h := h.2.2.1 c
      refine zr_tableIn C 46 dX8_count_6 (off := 40) (by rw [c] <;> decide) (by rw [c] <;> decide) (by rw [c] <;> decide) (by decide) ?_
      refine zr_aload_n C 0 dX8_count_46 rfl rfl ?_
      refine zg_X8_67 C zo_47 dX8_count_47 ?_
      exact R _ _ _ _ h dX8_count_50
    | 3, _, c =>
      have c : x1 = (3 : Int32) := c
      have h := h.2.2.2.1 c
      refine zr_tableIn C 51 dX8_count_6 (off := 45) (by rw [c] <;> decide) (by rw [c] <;> decide) (by rw [c] <;> decide) (by decide) ?_
      refine zr_aload_n C 0 dX8_count_51 rfl rfl ?_
      refine zg_X8_97 C zo_47 dX8_count_52 ?_
      exact R _ _ _ _ h dX8_count_55
    | k + 4, cj, _ => exact absurd cj (by omega)
