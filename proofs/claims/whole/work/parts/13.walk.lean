/-! X8_beyond -/
set_option maxHeartbeats 4000000 in
set_option maxRecDepth 100000 in
theorem w_X8_beyond_b72 {G : zG} {X : zX} (C : zC G X cX8_beyond RX8 3 15) (N : Nat) (Q : Int32 → zMem → Prop) (R : zRI G X cX8_beyond Q) (x1 : Int32) (x2 : Int32) (x3 : Int32) (x4 : Int32) (x5 : Int32) (x6 : Int32) (x7 : Int64) (x9 : Int64) (x12 : Int32) (s0 : Int32) (s1 : Int32) (k22 : Int32 → Int32 → zMem → Prop) (hk22 : ∀ (z11 : Int32) (z12 : Int32) (M : zMem), k22 z11 z12 M → zV G X M [(0, zR G 47), (1, .int x1), (2, .int x2), (3, .int x3), (4, .int x4), (5, .int x5), (6, .int x6), (7, .long x7), (9, .long x9), (11, .int z11), (12, .int z12)] [] 22) (M : zMem) (h : f_X8_beyond_b72 N k22 x1 x2 x3 x4 x5 x6 x7 x9 x12 s0 s1 M Q) : zV G X M [(0, zR G 47), (1, .int x1), (2, .int x2), (3, .int x3), (4, .int x4), (5, .int x5), (6, .int x6), (7, .long x7), (9, .long x9), (12, .int x12)] [.int s1, .int s0] 72 := by
  unfold f_X8_beyond_b72 at h
  refine zr_iadd C dX8_beyond_72 ?_
  refine zr_letI (fun v7 hv7 => ?_)
  have h := h v7 hv7
  refine zr_istore C [1, 2, 3, 4, 5, 6, 7, 8, 9, 0, 10] dX8_beyond_73 (by decide) rfl (lv' := [(0, zR G 47), (1, .int x1), (2, .int x2), (3, .int x3), (4, .int x4), (5, .int x5), (6, .int x6), (7, .long x7), (9, .long x9), (11, .int v7), (12, .int x12)]) ?_
  refine zr_iload C 10 dX8_beyond_75 rfl ?_
  refine zr_iload C 6 dX8_beyond_77 rfl ?_
  refine zr_iadd C dX8_beyond_79 ?_
  refine zr_letI (fun v8 hv8 => ?_)
  have h := h v8 hv8
  refine zr_istore C [1, 2, 3, 4, 5, 6, 7, 8, 9, 10, 0] dX8_beyond_80 (by decide) rfl (lv' := [(0, zR G 47), (1, .int x1), (2, .int x2), (3, .int x3), (4, .int x4), (5, .int x5), (6, .int x6), (7, .long x7), (9, .long x9), (11, .int v7), (12, .int v8)]) ?_
  refine zr_goto C 22 dX8_beyond_82 (by decide) ?_
  exact hk22 _ _ _ h
set_option maxHeartbeats 4000000 in
set_option maxRecDepth 100000 in
theorem w_X8_beyond_b71 {G : zG} {X : zX} (C : zC G X cX8_beyond RX8 3 15) (N : Nat) (Q : Int32 → zMem → Prop) (R : zRI G X cX8_beyond Q) (x1 : Int32) (x2 : Int32) (x3 : Int32) (x4 : Int32) (x5 : Int32) (x6 : Int32) (x7 : Int64) (x9 : Int64) (x12 : Int32) (s0 : Int32) (k22 : Int32 → Int32 → zMem → Prop) (hk22 : ∀ (z11 : Int32) (z12 : Int32) (M : zMem), k22 z11 z12 M → zV G X M [(0, zR G 47), (1, .int x1), (2, .int x2), (3, .int x3), (4, .int x4), (5, .int x5), (6, .int x6), (7, .long x7), (9, .long x9), (11, .int z11), (12, .int z12)] [] 22) (M : zMem) (h : f_X8_beyond_b71 N k22 x1 x2 x3 x4 x5 x6 x7 x9 x12 s0 M Q) : zV G X M [(0, zR G 47), (1, .int x1), (2, .int x2), (3, .int x3), (4, .int x4), (5, .int x5), (6, .int x6), (7, .long x7), (9, .long x9), (12, .int x12)] [.int s0] 71 := by
  unfold f_X8_beyond_b71 at h
  refine zr_iconst C (v := 0) dX8_beyond_71 (by decide) ?_
  exact w_X8_beyond_b72 C N Q R _ _ _ _ _ _ _ _ _ _ _ _ hk22 _ h
set_option maxHeartbeats 4000000 in
set_option maxRecDepth 100000 in
theorem w_X8_beyond_b67 {G : zG} {X : zX} (C : zC G X cX8_beyond RX8 3 15) (N : Nat) (Q : Int32 → zMem → Prop) (R : zRI G X cX8_beyond Q) (x1 : Int32) (x2 : Int32) (x3 : Int32) (x4 : Int32) (x5 : Int32) (x6 : Int32) (x7 : Int64) (x9 : Int64) (x12 : Int32) (s0 : Int32) (k22 : Int32 → Int32 → zMem → Prop) (hk22 : ∀ (z11 : Int32) (z12 : Int32) (M : zMem), k22 z11 z12 M → zV G X M [(0, zR G 47), (1, .int x1), (2, .int x2), (3, .int x3), (4, .int x4), (5, .int x5), (6, .int x6), (7, .long x7), (9, .long x9), (11, .int z11), (12, .int z12)] [] 22) (M : zMem) (h : f_X8_beyond_b67 N k22 x1 x2 x3 x4 x5 x6 x7 x9 x12 s0 M Q) : zV G X M [(0, zR G 47), (1, .int x1), (2, .int x2), (3, .int x3), (4, .int x4), (5, .int x5), (6, .int x6), (7, .long x7), (9, .long x9), (12, .int x12)] [.int s0] 67 := by
  unfold f_X8_beyond_b67 at h
  refine zr_iconst C (v := 1) dX8_beyond_67 (by decide) ?_
  refine zr_goto C 72 dX8_beyond_68 (by decide) ?_
  exact w_X8_beyond_b72 C N Q R _ _ _ _ _ _ _ _ _ _ _ _ hk22 _ h
set_option maxHeartbeats 4000000 in
set_option maxRecDepth 100000 in
theorem w_X8_beyond_b22 {G : zG} {X : zX} (C : zC G X cX8_beyond RX8 3 15) (N : Nat) (Q : Int32 → zMem → Prop) (R : zRI G X cX8_beyond Q) (x1 : Int32) (x2 : Int32) (x3 : Int32) (x4 : Int32) (x5 : Int32) (x6 : Int32) (x7 : Int64) (x9 : Int64) (k22 : Int32 → Int32 → zMem → Prop) (hk22 : ∀ (z11 : Int32) (z12 : Int32) (M : zMem), k22 z11 z12 M → zV G X M [(0, zR G 47), (1, .int x1), (2, .int x2), (3, .int x3), (4, .int x4), (5, .int x5), (6, .int x6), (7, .long x7), (9, .long x9), (11, .int z11), (12, .int z12)] [] 22) (x11 : Int32) (x12 : Int32) (M : zMem) (h : f_X8_beyond_b22 N k22 x1 x2 x3 x4 x5 x6 x7 x9 x11 x12 M Q) : zV G X M [(0, zR G 47), (1, .int x1), (2, .int x2), (3, .int x3), (4, .int x4), (5, .int x5), (6, .int x6), (7, .long x7), (9, .long x9), (11, .int x11), (12, .int x12)] [] 22 := by
  unfold f_X8_beyond_b22 at h
  refine zr_iload C 10 dX8_beyond_22 rfl ?_
  refine zr_iconst C (v := 4) dX8_beyond_24 (by decide) ?_
  refine zr_icmp_ge C 85 dX8_beyond_25 (by decide) (fun c => ?_) (fun c => ?_)
  · have h := h.1 c
    refine zr_iload C 9 dX8_beyond_85 rfl ?_
    exact R _ _ _ _ h dX8_beyond_87
  · have h := h.2 c
    refine zr_aload_n C 0 dX8_beyond_28 rfl rfl ?_
    refine zr_iload_n C 1 dX8_beyond_29 rfl rfl ?_
    refine zr_iload_n C 2 dX8_beyond_30 rfl rfl ?_
    refine zr_iload_n C 3 dX8_beyond_31 rfl rfl ?_
    refine zr_iload C 4 dX8_beyond_32 rfl ?_
    refine zr_iload C 10 dX8_beyond_34 rfl ?_
    refine zcL (zrunV C (rest := []) (c_X8_side X.2.1 G N _ _ _ _ _ _ _ h) zk_X8_side zl_X8_125 (zRc_7 zo_47) (by decide) (by decide) rfl (Nat.le_of_ble_eq_true rfl) rfl dX8_beyond_36) (fun r5 M6 h => ?_)
    refine zr_lstore C [1, 2, 3, 4, 5, 6, 7, 8, 9, 10, 11, 0] dX8_beyond_39 (by decide) rfl (lv' := [(0, zR G 47), (1, .int x1), (2, .int x2), (3, .int x3), (4, .int x4), (5, .int x5), (6, .int x6), (7, .long x7), (9, .long x9), (11, .int x11), (12, .int x12), (13, .long r5)]) ?_
    refine zr_iload C 9 dX8_beyond_41 rfl ?_
    refine zr_iload C 5 dX8_beyond_43 rfl ?_
    refine zr_if_eq C 59 dX8_beyond_45 (by decide) (fun c => ?_) (fun c => ?_)
    · have h := h.1 c
      refine zr_lload C 11 dX8_beyond_59 rfl ?_
      refine zr_lload C 7 dX8_beyond_61 rfl ?_
      refine zr_lcmp_ge C 71 dX8_beyond_63 dX8_beyond_64 (by decide) (fun c => ?_) (fun c => ?_)
      · have h := h.1 c
        refine zr_sub [0, 1, 2, 3, 4, 5, 6, 7, 8, 10] rfl (lv' := [(0, zR G 47), (1, .int x1), (2, .int x2), (3, .int x3), (4, .int x4), (5, .int x5), (6, .int x6), (7, .long x7), (9, .long x9), (12, .int x12)]) ?_
        exact w_X8_beyond_b71 C N Q R _ _ _ _ _ _ _ _ _ _ _ hk22 _ h
      · have h := h.2 c
        refine zr_sub [0, 1, 2, 3, 4, 5, 6, 7, 8, 10] rfl (lv' := [(0, zR G 47), (1, .int x1), (2, .int x2), (3, .int x3), (4, .int x4), (5, .int x5), (6, .int x6), (7, .long x7), (9, .long x9), (12, .int x12)]) ?_
        exact w_X8_beyond_b67 C N Q R _ _ _ _ _ _ _ _ _ _ _ hk22 _ h
    · have h := h.2 c
      refine zr_lload C 11 dX8_beyond_48 rfl ?_
      refine zr_lload C 8 dX8_beyond_50 rfl ?_
      refine zr_lcmp_le C 71 dX8_beyond_52 dX8_beyond_53 (by decide) (fun c => ?_) (fun c => ?_)
      · have h := h.1 c
        refine zr_sub [0, 1, 2, 3, 4, 5, 6, 7, 8, 10] rfl (lv' := [(0, zR G 47), (1, .int x1), (2, .int x2), (3, .int x3), (4, .int x4), (5, .int x5), (6, .int x6), (7, .long x7), (9, .long x9), (12, .int x12)]) ?_
        exact w_X8_beyond_b71 C N Q R _ _ _ _ _ _ _ _ _ _ _ hk22 _ h
      · have h := h.2 c
        refine zr_goto C 67 dX8_beyond_56 (by decide) ?_
        refine zr_sub [0, 1, 2, 3, 4, 5, 6, 7, 8, 10] rfl (lv' := [(0, zR G 47), (1, .int x1), (2, .int x2), (3, .int x3), (4, .int x4), (5, .int x5), (6, .int x6), (7, .long x7), (9, .long x9), (12, .int x12)]) ?_
        exact w_X8_beyond_b67 C N Q R _ _ _ _ _ _ _ _ _ _ _ hk22 _ h
theorem w_X8_beyond_l22 {G : zG} {X : zX} (C : zC G X cX8_beyond RX8 3 15) (N : Nat) (Q : Int32 → zMem → Prop) (R : zRI G X cX8_beyond Q) (x1 : Int32) (x2 : Int32) (x3 : Int32) (x4 : Int32) (x5 : Int32) (x6 : Int32) (x7 : Int64) (x9 : Int64) : ∀ (n : Nat) (x11 : Int32) (x12 : Int32) (M : zMem), f_X8_beyond_l22 N x1 x2 x3 x4 x5 x6 x7 x9 Q n x11 x12 M → zV G X M [(0, zR G 47), (1, .int x1), (2, .int x2), (3, .int x3), (4, .int x4), (5, .int x5), (6, .int x6), (7, .long x7), (9, .long x9), (11, .int x11), (12, .int x12)] [] 22 := by
  intro n
  induction n with
  | zero => intro x11 x12 M h; exact h.elim
  | succ n ih =>
    intro x11 x12 M h
    exact w_X8_beyond_b22 C N Q R x1 x2 x3 x4 x5 x6 x7 x9  _ ih x11 x12 M h
set_option maxHeartbeats 4000000 in
set_option maxRecDepth 100000 in
theorem c_X8_beyond (l : Launch) (G : zG) (N : Nat) (x1 : Int32) (x2 : Int32) (x3 : Int32) (x4 : Int32) (x5 : Int32) (x6 : Int32) (M : zMem) (Q : Int32 → zMem → Prop) (h : f_X8_beyond N x1 x2 x3 x4 x5 x6 M Q) : zMI l G yX8_beyond cX8_beyond 15 .int 3 [zR G 47, .int x1, .int x2, .int x3, .int x4, .int x5, .int x6] M Q := by
  refine zEI (by decide) (Nat.le_of_ble_eq_true rfl) (lv := [(0, zR G 47), (1, .int x1), (2, .int x2), (3, .int x3), (4, .int x4), (5, .int x5), (6, .int x6)]) rfl (fun X C R => ?_)
  have C : zC G X cX8_beyond RX8 3 15 := C
  unfold f_X8_beyond at h
  refine zr_aload_n C 0 dX8_beyond_0 rfl rfl ?_
  refine zr_iload_n C 1 dX8_beyond_1 rfl rfl ?_
  refine zr_iload_n C 2 dX8_beyond_2 rfl rfl ?_
  refine zcL (zrunV C (rest := []) (c_X8_bandLow X.2.1 G N _ _ _ _ h) zk_X8_bandLow zl_X8_129 (zRc_7 zo_47) (by decide) (by decide) rfl (Nat.le_of_ble_eq_true rfl) rfl dX8_beyond_3) (fun r1 M2 h => ?_)
  refine zr_lstore C [1, 2, 3, 4, 5, 6, 7, 0] dX8_beyond_6 (by decide) rfl (lv' := [(0, zR G 47), (1, .int x1), (2, .int x2), (3, .int x3), (4, .int x4), (5, .int x5), (6, .int x6), (7, .long r1)]) ?_
  refine zr_aload_n C 0 dX8_beyond_8 rfl rfl ?_
  refine zr_iload_n C 1 dX8_beyond_9 rfl rfl ?_
  refine zr_iload_n C 2 dX8_beyond_10 rfl rfl ?_
  refine zcL (zrunV C (rest := []) (c_X8_bandHigh X.2.1 G N _ _ _ _ h) zk_X8_bandHigh zl_X8_133 (zRc_7 zo_47) (by decide) (by decide) rfl (Nat.le_of_ble_eq_true rfl) rfl dX8_beyond_11) (fun r3 M4 h => ?_)
  refine zr_lstore C [1, 2, 3, 4, 5, 6, 7, 8, 0] dX8_beyond_14 (by decide) rfl (lv' := [(0, zR G 47), (1, .int x1), (2, .int x2), (3, .int x3), (4, .int x4), (5, .int x5), (6, .int x6), (7, .long r1), (9, .long r3)]) ?_
  refine zr_iconst C (v := 0) dX8_beyond_16 (by decide) ?_
  refine zr_istore C [1, 2, 3, 4, 5, 6, 7, 8, 9, 0] dX8_beyond_17 (by decide) rfl (lv' := [(0, zR G 47), (1, .int x1), (2, .int x2), (3, .int x3), (4, .int x4), (5, .int x5), (6, .int x6), (7, .long r1), (9, .long r3), (11, .int (0 : Int32))]) ?_
  refine zr_iconst C (v := 0) dX8_beyond_19 (by decide) ?_
  refine zr_istore C [1, 2, 3, 4, 5, 6, 7, 8, 9, 10, 0] dX8_beyond_20 (by decide) rfl (lv' := [(0, zR G 47), (1, .int x1), (2, .int x2), (3, .int x3), (4, .int x4), (5, .int x5), (6, .int x6), (7, .long r1), (9, .long r3), (11, .int (0 : Int32)), (12, .int (0 : Int32))]) ?_
  exact w_X8_beyond_l22 C N Q R _ _ _ _ _ _ _ _ N _ _ _ h
/-! X8_clears -/
set_option maxHeartbeats 4000000 in
set_option maxRecDepth 100000 in
theorem c_X8_clears (l : Launch) (G : zG) (N : Nat) (x1 : Int32) (x2 : Int32) (x3 : Int32) (x4 : Int32) (M : zMem) (Q : Int32 → zMem → Prop) (h : f_X8_clears N x1 x2 x3 x4 M Q) : zMI l G yX8_clears cX8_clears 5 .boolean 4 [zR G 47, .int x1, .int x2, .int x3, .int x4] M Q := by
  refine zEZ (by decide) (Nat.le_of_ble_eq_true rfl) (lv := [(0, zR G 47), (1, .int x1), (2, .int x2), (3, .int x3), (4, .int x4)]) rfl (fun X C R => ?_)
  have C : zC G X cX8_clears RX8 4 5 := C
  unfold f_X8_clears at h
  refine zr_aload_n C 0 dX8_clears_0 rfl rfl ?_
  refine zr_iload_n C 1 dX8_clears_1 rfl rfl ?_
  refine zr_iload_n C 2 dX8_clears_2 rfl rfl ?_
  refine zr_iload_n C 3 dX8_clears_3 rfl rfl ?_
  refine zr_iload C 4 dX8_clears_4 rfl ?_
  refine zr_iconst C (v := 1) dX8_clears_6 (by decide) ?_
  refine zr_iconst C (v := 1) dX8_clears_7 (by decide) ?_
  refine zcI (zrunV C (rest := []) (c_X8_beyond X.2.1 G N _ _ _ _ _ _ _ _ h) zk_X8_beyond zl_X8_136 (zRc_7 zo_47) (by decide) (by decide) rfl (Nat.le_of_ble_eq_true rfl) rfl dX8_clears_8) (fun r1 M2 h => ?_)
  refine zr_iconst C (v := 4) dX8_clears_11 (by decide) ?_
  refine zr_icmp_eq C 30 dX8_clears_12 (by decide) (fun c => ?_) (fun c => ?_)
  · have h := h.1 c
    refine zr_iconst C (v := 1) dX8_clears_30 (by decide) ?_
    refine zr_goto C 35 dX8_clears_31 (by decide) ?_
    exact R _ _ _ _ zb_1.1 h dX8_clears_35
  · have h := h.2 c
    refine zr_aload_n C 0 dX8_clears_15 rfl rfl ?_
    refine zr_iload_n C 1 dX8_clears_16 rfl rfl ?_
    refine zr_iload_n C 2 dX8_clears_17 rfl rfl ?_
    refine zr_iload_n C 3 dX8_clears_18 rfl rfl ?_
    refine zr_iload C 4 dX8_clears_19 rfl ?_
    refine zr_iconst C (v := 0) dX8_clears_21 (by decide) ?_
    refine zr_iconst C (v := 1) dX8_clears_22 (by decide) ?_
    refine zcI (zrunV C (rest := []) (c_X8_beyond X.2.1 G N _ _ _ _ _ _ _ _ h) zk_X8_beyond zl_X8_136 (zRc_7 zo_47) (by decide) (by decide) rfl (Nat.le_of_ble_eq_true rfl) rfl dX8_clears_23) (fun r3 M4 h => ?_)
    refine zr_iconst C (v := 4) dX8_clears_26 (by decide) ?_
    refine zr_icmp_ne C 34 dX8_clears_27 (by decide) (fun c => ?_) (fun c => ?_)
    · have h := h.1 c
      refine zr_iconst C (v := 0) dX8_clears_34 (by decide) ?_
      exact R _ _ _ _ zb_0.1 h dX8_clears_35
    · have h := h.2 c
      refine zr_iconst C (v := 1) dX8_clears_30 (by decide) ?_
      refine zr_goto C 35 dX8_clears_31 (by decide) ?_
      exact R _ _ _ _ zb_1.1 h dX8_clears_35
/-! X8_extreme -/
set_option maxHeartbeats 4000000 in
set_option maxRecDepth 100000 in
theorem w_X8_extreme_b59 {G : zG} {X : zX} (C : zC G X cX8_extreme RX8 1 8) (N : Nat) (Q : Int32 → zMem → Prop) (R : zRI G X cX8_extreme Q) (x1 : Int32) (x2 : Int32) (x3 : Int32) (x4 : Int32) (x6 : Int32) (s0 : Int32) (k13 : Int32 → Int32 → zMem → Prop) (hk13 : ∀ (z5 : Int32) (z6 : Int32) (M : zMem), k13 z5 z6 M → zV G X M [(0, zR G 47), (1, .int x1), (2, .int x2), (3, .int x3), (4, .int x4), (5, .int z5), (6, .int z6)] [] 13) (M : zMem) (h : f_X8_extreme_b59 N k13 x1 x2 x3 x4 x6 s0 M Q) : zV G X M [(0, zR G 47), (1, .int x1), (2, .int x2), (3, .int x3), (4, .int x4), (6, .int x6)] [.int s0] 59 := by
  unfold f_X8_extreme_b59 at h
  refine zr_istore C [1, 2, 3, 4, 5, 0, 6] dX8_extreme_59 (by decide) rfl (lv' := [(0, zR G 47), (1, .int x1), (2, .int x2), (3, .int x3), (4, .int x4), (5, .int s0), (6, .int x6)]) ?_
  obtain ⟨v5, hv5⟩ : ∃ y : Int32, y = x6 + (1 : Int32) := ⟨_, rfl⟩
  have h := h v5 hv5
  refine zr_iinc C 6 [1, 2, 3, 4, 5, 6, 0] dX8_extreme_61 rfl (by rw [hv5]; rfl) (by decide) rfl (lv' := [(0, zR G 47), (1, .int x1), (2, .int x2), (3, .int x3), (4, .int x4), (5, .int s0), (6, .int v5)]) ?_
  refine zr_goto C 13 dX8_extreme_64 (by decide) ?_
  exact hk13 _ _ _ h
set_option maxHeartbeats 4000000 in
set_option maxRecDepth 100000 in
theorem w_X8_extreme_b57 {G : zG} {X : zX} (C : zC G X cX8_extreme RX8 1 8) (N : Nat) (Q : Int32 → zMem → Prop) (R : zRI G X cX8_extreme Q) (x1 : Int32) (x2 : Int32) (x3 : Int32) (x4 : Int32) (x5 : Int32) (x6 : Int32) (k13 : Int32 → Int32 → zMem → Prop) (hk13 : ∀ (z5 : Int32) (z6 : Int32) (M : zMem), k13 z5 z6 M → zV G X M [(0, zR G 47), (1, .int x1), (2, .int x2), (3, .int x3), (4, .int x4), (5, .int z5), (6, .int z6)] [] 13) (M : zMem) (h : f_X8_extreme_b57 N k13 x1 x2 x3 x4 x5 x6 M Q) : zV G X M [(0, zR G 47), (1, .int x1), (2, .int x2), (3, .int x3), (4, .int x4), (5, .int x5), (6, .int x6)] [] 57 := by
  unfold f_X8_extreme_b57 at h
  refine zr_iload C 5 dX8_extreme_57 rfl ?_
  refine zr_sub [0, 1, 2, 3, 4, 6] rfl (lv' := [(0, zR G 47), (1, .int x1), (2, .int x2), (3, .int x3), (4, .int x4), (6, .int x6)]) ?_
  exact w_X8_extreme_b59 C N Q R _ _ _ _ _ _ _ hk13 _ h
set_option maxHeartbeats 4000000 in
set_option maxRecDepth 100000 in
theorem w_X8_extreme_b52 {G : zG} {X : zX} (C : zC G X cX8_extreme RX8 1 8) (N : Nat) (Q : Int32 → zMem → Prop) (R : zRI G X cX8_extreme Q) (x1 : Int32) (x2 : Int32) (x3 : Int32) (x4 : Int32) (x6 : Int32) (x7 : Int32) (k13 : Int32 → Int32 → zMem → Prop) (hk13 : ∀ (z5 : Int32) (z6 : Int32) (M : zMem), k13 z5 z6 M → zV G X M [(0, zR G 47), (1, .int x1), (2, .int x2), (3, .int x3), (4, .int x4), (5, .int z5), (6, .int z6)] [] 13) (M : zMem) (h : f_X8_extreme_b52 N k13 x1 x2 x3 x4 x6 x7 M Q) : zV G X M [(0, zR G 47), (1, .int x1), (2, .int x2), (3, .int x3), (4, .int x4), (6, .int x6), (7, .int x7)] [] 52 := by
  unfold f_X8_extreme_b52 at h
  refine zr_iload C 6 dX8_extreme_52 rfl ?_
  refine zr_goto C 59 dX8_extreme_54 (by decide) ?_
  refine zr_sub [0, 1, 2, 3, 4, 5] rfl (lv' := [(0, zR G 47), (1, .int x1), (2, .int x2), (3, .int x3), (4, .int x4), (6, .int x6)]) ?_
  exact w_X8_extreme_b59 C N Q R _ _ _ _ _ _ _ hk13 _ h
set_option maxHeartbeats 4000000 in
set_option maxRecDepth 100000 in
theorem w_X8_extreme_b13 {G : zG} {X : zX} (C : zC G X cX8_extreme RX8 1 8) (N : Nat) (Q : Int32 → zMem → Prop) (R : zRI G X cX8_extreme Q) (x1 : Int32) (x2 : Int32) (x3 : Int32) (x4 : Int32) (k13 : Int32 → Int32 → zMem → Prop) (hk13 : ∀ (z5 : Int32) (z6 : Int32) (M : zMem), k13 z5 z6 M → zV G X M [(0, zR G 47), (1, .int x1), (2, .int x2), (3, .int x3), (4, .int x4), (5, .int z5), (6, .int z6)] [] 13) (x5 : Int32) (x6 : Int32) (M : zMem) (h : f_X8_extreme_b13 N k13 x1 x2 x3 x4 x5 x6 M Q) : zV G X M [(0, zR G 47), (1, .int x1), (2, .int x2), (3, .int x3), (4, .int x4), (5, .int x5), (6, .int x6)] [] 13 := by
  unfold f_X8_extreme_b13 at h
  refine zr_iload C 6 dX8_extreme_13 rfl ?_
  refine zr_iconst C (v := 4) dX8_extreme_15 (by decide) ?_
  refine zr_icmp_ge C 67 dX8_extreme_16 (by decide) (fun c => ?_) (fun c => ?_)
  · have h := h.1 c
    refine zr_iload C 5 dX8_extreme_67 rfl ?_
    exact R _ _ _ _ h dX8_extreme_69
  · have h := h.2 c
    refine zr_aload_n C 0 dX8_extreme_19 rfl rfl ?_
    refine zr_iload_n C 1 dX8_extreme_20 rfl rfl ?_
    refine zr_iload_n C 2 dX8_extreme_21 rfl rfl ?_
    refine zr_iload C 6 dX8_extreme_22 rfl ?_
    refine zr_iload_n C 3 dX8_extreme_24 rfl rfl ?_
    refine zcI (zrunV C (rest := []) (c_X8_at X.2.1 G N _ _ _ _ _ _ h) zk_X8_at zl_X8_117 (zRc_7 zo_47) (by decide) (by decide) rfl (Nat.le_of_ble_eq_true rfl) rfl dX8_extreme_25) (fun r3 M4 h => ?_)
    refine zr_istore C [1, 2, 3, 4, 5, 6, 7, 0] dX8_extreme_28 (by decide) rfl (lv' := [(0, zR G 47), (1, .int x1), (2, .int x2), (3, .int x3), (4, .int x4), (5, .int x5), (6, .int x6), (7, .int r3)]) ?_
    refine zr_iload C 4 dX8_extreme_30 rfl ?_
    refine zr_if_eq C 45 dX8_extreme_32 (by decide) (fun c => ?_) (fun c => ?_)
    · have h := h.1 c
      refine zr_iload C 7 dX8_extreme_45 rfl ?_
      refine zr_iload C 5 dX8_extreme_47 rfl ?_
      refine zr_icmp_ge C 57 dX8_extreme_49 (by decide) (fun c => ?_) (fun c => ?_)
      · have h := h.1 c
        refine zr_sub [0, 1, 2, 3, 4, 5, 6] rfl (lv' := [(0, zR G 47), (1, .int x1), (2, .int x2), (3, .int x3), (4, .int x4), (5, .int x5), (6, .int x6)]) ?_
        exact w_X8_extreme_b57 C N Q R _ _ _ _ _ _ _ hk13 _ h
      · have h := h.2 c
        refine zr_sub [0, 1, 2, 3, 4, 6, 7] rfl (lv' := [(0, zR G 47), (1, .int x1), (2, .int x2), (3, .int x3), (4, .int x4), (6, .int x6), (7, .int r3)]) ?_
        exact w_X8_extreme_b52 C N Q R _ _ _ _ _ _ _ hk13 _ h
    · have h := h.2 c
      refine zr_iload C 7 dX8_extreme_35 rfl ?_
      refine zr_iload C 5 dX8_extreme_37 rfl ?_
      refine zr_icmp_le C 57 dX8_extreme_39 (by decide) (fun c => ?_) (fun c => ?_)
      · have h := h.1 c
        refine zr_sub [0, 1, 2, 3, 4, 5, 6] rfl (lv' := [(0, zR G 47), (1, .int x1), (2, .int x2), (3, .int x3), (4, .int x4), (5, .int x5), (6, .int x6)]) ?_
        exact w_X8_extreme_b57 C N Q R _ _ _ _ _ _ _ hk13 _ h
      · have h := h.2 c
        refine zr_goto C 52 dX8_extreme_42 (by decide) ?_
        refine zr_sub [0, 1, 2, 3, 4, 6, 7] rfl (lv' := [(0, zR G 47), (1, .int x1), (2, .int x2), (3, .int x3), (4, .int x4), (6, .int x6), (7, .int r3)]) ?_
        exact w_X8_extreme_b52 C N Q R _ _ _ _ _ _ _ hk13 _ h
theorem w_X8_extreme_l13 {G : zG} {X : zX} (C : zC G X cX8_extreme RX8 1 8) (N : Nat) (Q : Int32 → zMem → Prop) (R : zRI G X cX8_extreme Q) (x1 : Int32) (x2 : Int32) (x3 : Int32) (x4 : Int32) : ∀ (n : Nat) (x5 : Int32) (x6 : Int32) (M : zMem), f_X8_extreme_l13 N x1 x2 x3 x4 Q n x5 x6 M → zV G X M [(0, zR G 47), (1, .int x1), (2, .int x2), (3, .int x3), (4, .int x4), (5, .int x5), (6, .int x6)] [] 13 := by
  intro n
  induction n with
  | zero => intro x5 x6 M h; exact h.elim
  | succ n ih =>
    intro x5 x6 M h
    exact w_X8_extreme_b13 C N Q R x1 x2 x3 x4  _ ih x5 x6 M h
set_option maxHeartbeats 4000000 in
set_option maxRecDepth 100000 in
theorem c_X8_extreme (l : Launch) (G : zG) (N : Nat) (x1 : Int32) (x2 : Int32) (x3 : Int32) (x4 : Int32) (M : zMem) (Q : Int32 → zMem → Prop) (h : f_X8_extreme N x1 x2 x3 x4 M Q) : zMI l G yX8_extreme cX8_extreme 8 .int 1 [zR G 47, .int x1, .int x2, .int x3, .int x4] M Q := by
  refine zEI (by decide) (Nat.le_of_ble_eq_true rfl) (lv := [(0, zR G 47), (1, .int x1), (2, .int x2), (3, .int x3), (4, .int x4)]) rfl (fun X C R => ?_)
  have C : zC G X cX8_extreme RX8 1 8 := C
  unfold f_X8_extreme at h
  refine zr_aload_n C 0 dX8_extreme_0 rfl rfl ?_
  refine zr_iload_n C 1 dX8_extreme_1 rfl rfl ?_
  refine zr_iload_n C 2 dX8_extreme_2 rfl rfl ?_
  refine zr_iconst C (v := 0) dX8_extreme_3 (by decide) ?_
  refine zr_iload_n C 3 dX8_extreme_4 rfl rfl ?_
  refine zcI (zrunV C (rest := []) (c_X8_at X.2.1 G N _ _ _ _ _ _ h) zk_X8_at zl_X8_117 (zRc_7 zo_47) (by decide) (by decide) rfl (Nat.le_of_ble_eq_true rfl) rfl dX8_extreme_5) (fun r1 M2 h => ?_)
  refine zr_istore C [1, 2, 3, 4, 5, 0] dX8_extreme_8 (by decide) rfl (lv' := [(0, zR G 47), (1, .int x1), (2, .int x2), (3, .int x3), (4, .int x4), (5, .int r1)]) ?_
  refine zr_iconst C (v := 1) dX8_extreme_10 (by decide) ?_
  refine zr_istore C [1, 2, 3, 4, 5, 6, 0] dX8_extreme_11 (by decide) rfl (lv' := [(0, zR G 47), (1, .int x1), (2, .int x2), (3, .int x3), (4, .int x4), (5, .int r1), (6, .int (1 : Int32))]) ?_
  exact w_X8_extreme_l13 C N Q R _ _ _ _ N _ _ _ h
/-! X8_areBoxesApart -/
set_option maxHeartbeats 4000000 in
set_option maxRecDepth 100000 in
theorem w_X8_areBoxesApart_b66 {G : zG} {X : zX} (C : zC G X cX8_areBoxesApart RX8 2 7) (N : Nat) (Q : Int32 → zMem → Prop) (R : zRZ G X cX8_areBoxesApart Q) (x1 : Int32) (x2 : Int32) (x3 : Int32) (x4 : Int32) (x6 : Int32) (s0 : Int32) (k6 : Int32 → Int32 → zMem → Prop) (hk6 : ∀ (z5 : Int32) (z6 : Int32) (M : zMem), k6 z5 z6 M → zV G X M [(0, zR G 47), (1, .int x1), (2, .int x2), (3, .int x3), (4, .int x4), (5, .int z5), (6, .int z6)] [] 6) (M : zMem) (h : f_X8_areBoxesApart_b66 N k6 x1 x2 x3 x4 x6 s0 M Q) : zV G X M [(0, zR G 47), (1, .int x1), (2, .int x2), (3, .int x3), (4, .int x4), (6, .int x6)] [.int s0] 66 := by
  unfold f_X8_areBoxesApart_b66 at h
  refine zr_istore C [1, 2, 3, 4, 5, 0, 6] dX8_areBoxesApart_66 (by decide) rfl (lv' := [(0, zR G 47), (1, .int x1), (2, .int x2), (3, .int x3), (4, .int x4), (5, .int s0), (6, .int x6)]) ?_
  obtain ⟨v1, hv1⟩ : ∃ y : Int32, y = x6 + (1 : Int32) := ⟨_, rfl⟩
  have h := h v1 hv1
  refine zr_iinc C 6 [1, 2, 3, 4, 5, 6, 0] dX8_areBoxesApart_68 rfl (by rw [hv1]; rfl) (by decide) rfl (lv' := [(0, zR G 47), (1, .int x1), (2, .int x2), (3, .int x3), (4, .int x4), (5, .int s0), (6, .int v1)]) ?_
  refine zr_goto C 6 dX8_areBoxesApart_71 (by decide) ?_
  exact hk6 _ _ _ h
set_option maxHeartbeats 4000000 in
set_option maxRecDepth 100000 in
theorem w_X8_areBoxesApart_b61 {G : zG} {X : zX} (C : zC G X cX8_areBoxesApart RX8 2 7) (N : Nat) (Q : Int32 → zMem → Prop) (R : zRZ G X cX8_areBoxesApart Q) (x1 : Int32) (x2 : Int32) (x3 : Int32) (x4 : Int32) (x6 : Int32) (k6 : Int32 → Int32 → zMem → Prop) (hk6 : ∀ (z5 : Int32) (z6 : Int32) (M : zMem), k6 z5 z6 M → zV G X M [(0, zR G 47), (1, .int x1), (2, .int x2), (3, .int x3), (4, .int x4), (5, .int z5), (6, .int z6)] [] 6) (M : zMem) (h : f_X8_areBoxesApart_b61 N k6 x1 x2 x3 x4 x6 M Q) : zV G X M [(0, zR G 47), (1, .int x1), (2, .int x2), (3, .int x3), (4, .int x4), (6, .int x6)] [] 61 := by
  unfold f_X8_areBoxesApart_b61 at h
  refine zr_iconst C (v := 1) dX8_areBoxesApart_61 (by decide) ?_
  refine zr_goto C 66 dX8_areBoxesApart_62 (by decide) ?_
  exact w_X8_areBoxesApart_b66 C N Q R _ _ _ _ _ _ _ hk6 _ h
set_option maxHeartbeats 4000000 in
set_option maxRecDepth 100000 in
theorem w_X8_areBoxesApart_b6 {G : zG} {X : zX} (C : zC G X cX8_areBoxesApart RX8 2 7) (N : Nat) (Q : Int32 → zMem → Prop) (R : zRZ G X cX8_areBoxesApart Q) (x1 : Int32) (x2 : Int32) (x3 : Int32) (x4 : Int32) (k6 : Int32 → Int32 → zMem → Prop) (hk6 : ∀ (z5 : Int32) (z6 : Int32) (M : zMem), k6 z5 z6 M → zV G X M [(0, zR G 47), (1, .int x1), (2, .int x2), (3, .int x3), (4, .int x4), (5, .int z5), (6, .int z6)] [] 6) (x5 : Int32) (x6 : Int32) (M : zMem) (h : f_X8_areBoxesApart_b6 N k6 x1 x2 x3 x4 x5 x6 M Q) : zV G X M [(0, zR G 47), (1, .int x1), (2, .int x2), (3, .int x3), (4, .int x4), (5, .int x5), (6, .int x6)] [] 6 := by
  unfold f_X8_areBoxesApart_b6 at h
  refine zr_iload C 6 dX8_areBoxesApart_6 rfl ?_
  refine zr_iconst C (v := 2) dX8_areBoxesApart_8 (by decide) ?_
  refine zr_icmp_ge C 74 dX8_areBoxesApart_9 (by decide) (fun c => ?_) (fun c => ?_)
  · have h := h.1 c
    refine zr_iload C 5 dX8_areBoxesApart_74 rfl ?_
    exact R _ _ _ _ h.1.1 h.2 dX8_areBoxesApart_76
  · have h := h.2 c
    refine zr_iload C 5 dX8_areBoxesApart_12 rfl ?_
    refine zr_if_ne C 61 dX8_areBoxesApart_14 (by decide) (fun c => ?_) (fun c => ?_)
    · have h := h.1 c
      refine zr_sub [0, 1, 2, 3, 4, 6] rfl (lv' := [(0, zR G 47), (1, .int x1), (2, .int x2), (3, .int x3), (4, .int x4), (6, .int x6)]) ?_
      exact w_X8_areBoxesApart_b61 C N Q R _ _ _ _ _ _ hk6 _ h
    · have h := h.2 c
      refine zr_aload_n C 0 dX8_areBoxesApart_17 rfl rfl ?_
      refine zr_iload_n C 1 dX8_areBoxesApart_18 rfl rfl ?_
      refine zr_iload_n C 2 dX8_areBoxesApart_19 rfl rfl ?_
      refine zr_iload C 6 dX8_areBoxesApart_20 rfl ?_
      refine zr_iconst C (v := 1) dX8_areBoxesApart_22 (by decide) ?_
      refine zcI (zrunV C (rest := []) (c_X8_extreme X.2.1 G N _ _ _ _ _ _ h) zk_X8_extreme zl_X8_140 (zRc_7 zo_47) (by decide) (by decide) rfl (Nat.le_of_ble_eq_true rfl) rfl dX8_areBoxesApart_23) (fun r2 M3 h => ?_)
      refine zr_aload_n C 0 dX8_areBoxesApart_26 rfl rfl ?_
      refine zr_iload_n C 3 dX8_areBoxesApart_27 rfl rfl ?_
      refine zr_iload C 4 dX8_areBoxesApart_28 rfl ?_
      refine zr_iload C 6 dX8_areBoxesApart_30 rfl ?_
      refine zr_iconst C (v := 0) dX8_areBoxesApart_32 (by decide) ?_
      refine zcI (zrunV C (rest := [.int r2]) (c_X8_extreme X.2.1 G N _ _ _ _ _ _ h) zk_X8_extreme zl_X8_140 (zRc_7 zo_47) (by decide) (by decide) rfl (Nat.le_of_ble_eq_true rfl) rfl dX8_areBoxesApart_33) (fun r4 M5 h => ?_)
      refine zr_icmp_lt C 61 dX8_areBoxesApart_36 (by decide) (fun c => ?_) (fun c => ?_)
      · have h := h.1 c
        refine zr_sub [0, 1, 2, 3, 4, 6] rfl (lv' := [(0, zR G 47), (1, .int x1), (2, .int x2), (3, .int x3), (4, .int x4), (6, .int x6)]) ?_
        exact w_X8_areBoxesApart_b61 C N Q R _ _ _ _ _ _ hk6 _ h
      · have h := h.2 c
        refine zr_aload_n C 0 dX8_areBoxesApart_39 rfl rfl ?_
        refine zr_iload_n C 3 dX8_areBoxesApart_40 rfl rfl ?_
        refine zr_iload C 4 dX8_areBoxesApart_41 rfl ?_
        refine zr_iload C 6 dX8_areBoxesApart_43 rfl ?_
        refine zr_iconst C (v := 1) dX8_areBoxesApart_45 (by decide) ?_
        refine zcI (zrunV C (rest := []) (c_X8_extreme X.2.1 G N _ _ _ _ _ _ h) zk_X8_extreme zl_X8_140 (zRc_7 zo_47) (by decide) (by decide) rfl (Nat.le_of_ble_eq_true rfl) rfl dX8_areBoxesApart_46) (fun r6 M7 h => ?_)
        refine zr_aload_n C 0 dX8_areBoxesApart_49 rfl rfl ?_
        refine zr_iload_n C 1 dX8_areBoxesApart_50 rfl rfl ?_
        refine zr_iload_n C 2 dX8_areBoxesApart_51 rfl rfl ?_
        refine zr_iload C 6 dX8_areBoxesApart_52 rfl ?_
        refine zr_iconst C (v := 0) dX8_areBoxesApart_54 (by decide) ?_
        refine zcI (zrunV C (rest := [.int r6]) (c_X8_extreme X.2.1 G N _ _ _ _ _ _ h) zk_X8_extreme zl_X8_140 (zRc_7 zo_47) (by decide) (by decide) rfl (Nat.le_of_ble_eq_true rfl) rfl dX8_areBoxesApart_55) (fun r8 M9 h => ?_)
        refine zr_icmp_ge C 65 dX8_areBoxesApart_58 (by decide) (fun c => ?_) (fun c => ?_)
        · have h := h.1 c
          refine zr_iconst C (v := 0) dX8_areBoxesApart_65 (by decide) ?_
          refine zr_sub [0, 1, 2, 3, 4, 6] rfl (lv' := [(0, zR G 47), (1, .int x1), (2, .int x2), (3, .int x3), (4, .int x4), (6, .int x6)]) ?_
          exact w_X8_areBoxesApart_b66 C N Q R _ _ _ _ _ _ _ hk6 _ h
        · have h := h.2 c
          refine zr_sub [0, 1, 2, 3, 4, 6] rfl (lv' := [(0, zR G 47), (1, .int x1), (2, .int x2), (3, .int x3), (4, .int x4), (6, .int x6)]) ?_
          exact w_X8_areBoxesApart_b61 C N Q R _ _ _ _ _ _ hk6 _ h
theorem w_X8_areBoxesApart_l6 {G : zG} {X : zX} (C : zC G X cX8_areBoxesApart RX8 2 7) (N : Nat) (Q : Int32 → zMem → Prop) (R : zRZ G X cX8_areBoxesApart Q) (x1 : Int32) (x2 : Int32) (x3 : Int32) (x4 : Int32) : ∀ (n : Nat) (x5 : Int32) (x6 : Int32) (M : zMem), f_X8_areBoxesApart_l6 N x1 x2 x3 x4 Q n x5 x6 M → zV G X M [(0, zR G 47), (1, .int x1), (2, .int x2), (3, .int x3), (4, .int x4), (5, .int x5), (6, .int x6)] [] 6 := by
  intro n
  induction n with
  | zero => intro x5 x6 M h; exact h.elim
  | succ n ih =>
    intro x5 x6 M h
    exact w_X8_areBoxesApart_b6 C N Q R x1 x2 x3 x4  _ ih x5 x6 M h
set_option maxHeartbeats 4000000 in
set_option maxRecDepth 100000 in
theorem c_X8_areBoxesApart (l : Launch) (G : zG) (N : Nat) (x1 : Int32) (x2 : Int32) (x3 : Int32) (x4 : Int32) (M : zMem) (Q : Int32 → zMem → Prop) (h : f_X8_areBoxesApart N x1 x2 x3 x4 M Q) : zMI l G yX8_areBoxesApart cX8_areBoxesApart 7 .boolean 2 [zR G 47, .int x1, .int x2, .int x3, .int x4] M Q := by
  refine zEZ (by decide) (Nat.le_of_ble_eq_true rfl) (lv := [(0, zR G 47), (1, .int x1), (2, .int x2), (3, .int x3), (4, .int x4)]) rfl (fun X C R => ?_)
  have C : zC G X cX8_areBoxesApart RX8 2 7 := C
  unfold f_X8_areBoxesApart at h
  refine zr_iconst C (v := 0) dX8_areBoxesApart_0 (by decide) ?_
  refine zr_istore C [1, 2, 3, 4, 5, 0] dX8_areBoxesApart_1 (by decide) rfl (lv' := [(0, zR G 47), (1, .int x1), (2, .int x2), (3, .int x3), (4, .int x4), (5, .int (0 : Int32))]) ?_
  refine zr_iconst C (v := 0) dX8_areBoxesApart_3 (by decide) ?_
  refine zr_istore C [1, 2, 3, 4, 5, 6, 0] dX8_areBoxesApart_4 (by decide) rfl (lv' := [(0, zR G 47), (1, .int x1), (2, .int x2), (3, .int x3), (4, .int x4), (5, .int (0 : Int32)), (6, .int (0 : Int32))]) ?_
  exact w_X8_areBoxesApart_l6 C N Q R _ _ _ _ N _ _ _ h
/-! X8_apartOf -/
set_option maxHeartbeats 4000000 in
set_option maxRecDepth 100000 in
theorem c_X8_apartOf (l : Launch) (G : zG) (N : Nat) (x1 : Int32) (x2 : Int32) (x3 : Int32) (x4 : Int32) (M : zMem) (Q : Int32 → zMem → Prop) (h : f_X8_apartOf N x1 x2 x3 x4 M Q) : zMI l G yX8_apartOf cX8_apartOf 5 .int 5 [zR G 47, .int x1, .int x2, .int x3, .int x4] M Q := by
  refine zEI (by decide) (Nat.le_of_ble_eq_true rfl) (lv := [(0, zR G 47), (1, .int x1), (2, .int x2), (3, .int x3), (4, .int x4)]) rfl (fun X C R => ?_)
  have C : zC G X cX8_apartOf RX8 5 5 := C
  unfold f_X8_apartOf at h
  refine zr_aload_n C 0 dX8_apartOf_0 rfl rfl ?_
  refine zr_iload_n C 1 dX8_apartOf_1 rfl rfl ?_
  refine zr_iload_n C 2 dX8_apartOf_2 rfl rfl ?_
  refine zr_iload_n C 3 dX8_apartOf_3 rfl rfl ?_
  refine zr_iload C 4 dX8_apartOf_4 rfl ?_
  refine zcI (zrunV C (rest := []) (c_X8_areBoxesApart X.2.1 G N _ _ _ _ _ _ h) zk_X8_areBoxesApart zl_X8_144 (zRc_7 zo_47) (by decide) (by decide) rfl (Nat.le_of_ble_eq_true rfl) rfl dX8_apartOf_6) (fun r1 M2 h => ?_)
  refine zr_if_eq C 14 dX8_apartOf_9 (by decide) (fun c => ?_) (fun c => ?_)
  · have h := h.1 c
    refine zr_aload_n C 0 dX8_apartOf_14 rfl rfl ?_
    refine zr_iload_n C 1 dX8_apartOf_15 rfl rfl ?_
    refine zr_iload_n C 2 dX8_apartOf_16 rfl rfl ?_
    refine zr_iload_n C 3 dX8_apartOf_17 rfl rfl ?_
    refine zr_iload C 4 dX8_apartOf_18 rfl ?_
    refine zcI (zrunV C (rest := []) (c_X8_clears X.2.1 G N _ _ _ _ _ _ h) zk_X8_clears zl_X8_148 (zRc_7 zo_47) (by decide) (by decide) rfl (Nat.le_of_ble_eq_true rfl) rfl dX8_apartOf_20) (fun r3 M4 h => ?_)
    refine zr_if_eq C 30 dX8_apartOf_23 (by decide) (fun c => ?_) (fun c => ?_)
    · have h := h.1 c
      refine zr_aload_n C 0 dX8_apartOf_30 rfl rfl ?_
      refine zr_iload_n C 3 dX8_apartOf_31 rfl rfl ?_
      refine zr_iload C 4 dX8_apartOf_32 rfl ?_
      refine zr_iload_n C 1 dX8_apartOf_34 rfl rfl ?_
      refine zr_iload_n C 2 dX8_apartOf_35 rfl rfl ?_
      refine zcI (zrunV C (rest := []) (c_X8_clears X.2.1 G N _ _ _ _ _ _ h) zk_X8_clears zl_X8_148 (zRc_7 zo_47) (by decide) (by decide) rfl (Nat.le_of_ble_eq_true rfl) rfl dX8_apartOf_36) (fun r5 M6 h => ?_)
      refine zr_if_eq C 46 dX8_apartOf_39 (by decide) (fun c => ?_) (fun c => ?_)
      · have h := h.1 c
        refine zr_iconst C (v := 0) dX8_apartOf_46 (by decide) ?_
        exact R _ _ _ _ h dX8_apartOf_47
      · have h := h.2 c
        refine zr_iconst C (v := 3) dX8_apartOf_42 (by decide) ?_
        refine zr_goto C 47 dX8_apartOf_43 (by decide) ?_
        exact R _ _ _ _ h dX8_apartOf_47
    · have h := h.2 c
      refine zr_iconst C (v := 2) dX8_apartOf_26 (by decide) ?_
      refine zr_goto C 47 dX8_apartOf_27 (by decide) ?_
      exact R _ _ _ _ h dX8_apartOf_47
  · have h := h.2 c
    refine zr_iconst C (v := 1) dX8_apartOf_12 (by decide) ?_
    exact R _ _ _ _ h dX8_apartOf_13
/-! X8_turnOf -/
set_option maxHeartbeats 4000000 in
set_option maxRecDepth 100000 in
theorem w_X8_turnOf_b102 {G : zG} {X : zX} (C : zC G X cX8_turnOf RX8 2 10) (N : Nat) (Q : Int32 → zMem → Prop) (R : zRI G X cX8_turnOf Q) (x1 : Int32) (x2 : Int32) (x3 : Int32) (x4 : Int32) (x5 : Int32) (x7 : Int32) (s0 : Int32) (s1 : Int32) (k9 : Int32 → Int32 → Int32 → zMem → Prop) (hk9 : ∀ (z5 : Int32) (z6 : Int32) (z7 : Int32) (M : zMem), k9 z5 z6 z7 M → zV G X M [(0, zR G 47), (1, .int x1), (2, .int x2), (3, .int x3), (4, .int x4), (5, .int z5), (6, .int z6), (7, .int z7)] [] 9) (M : zMem) (h : f_X8_turnOf_b102 N k9 x1 x2 x3 x4 x5 x7 s0 s1 M Q) : zV G X M [(0, zR G 47), (1, .int x1), (2, .int x2), (3, .int x3), (4, .int x4), (5, .int x5), (7, .int x7)] [.int s1, .int s0] 102 := by
  unfold f_X8_turnOf_b102 at h
  refine zr_iadd C dX8_turnOf_102 ?_
  refine zr_letI (fun v12 hv12 => ?_)
  have h := h v12 hv12
  refine zr_istore C [1, 2, 3, 4, 5, 6, 0, 7] dX8_turnOf_103 (by decide) rfl (lv' := [(0, zR G 47), (1, .int x1), (2, .int x2), (3, .int x3), (4, .int x4), (5, .int x5), (6, .int v12), (7, .int x7)]) ?_
  obtain ⟨v13, hv13⟩ : ∃ y : Int32, y = x7 + (1 : Int32) := ⟨_, rfl⟩
  have h := h v13 hv13
  refine zr_iinc C 7 [1, 2, 3, 4, 5, 6, 7, 0] dX8_turnOf_105 rfl (by rw [hv13]; rfl) (by decide) rfl (lv' := [(0, zR G 47), (1, .int x1), (2, .int x2), (3, .int x3), (4, .int x4), (5, .int x5), (6, .int v12), (7, .int v13)]) ?_
  refine zr_goto C 9 dX8_turnOf_108 (by decide) ?_
  exact hk9 _ _ _ _ h
set_option maxHeartbeats 4000000 in
set_option maxRecDepth 100000 in
theorem w_X8_turnOf_b85 {G : zG} {X : zX} (C : zC G X cX8_turnOf RX8 2 10) (N : Nat) (Q : Int32 → zMem → Prop) (R : zRI G X cX8_turnOf Q) (x1 : Int32) (x2 : Int32) (x3 : Int32) (x4 : Int32) (x6 : Int32) (x7 : Int32) (x8 : Int64) (s0 : Int32) (s1 : Int32) (k9 : Int32 → Int32 → Int32 → zMem → Prop) (hk9 : ∀ (z5 : Int32) (z6 : Int32) (z7 : Int32) (M : zMem), k9 z5 z6 z7 M → zV G X M [(0, zR G 47), (1, .int x1), (2, .int x2), (3, .int x3), (4, .int x4), (5, .int z5), (6, .int z6), (7, .int z7)] [] 9) (M : zMem) (h : f_X8_turnOf_b85 N k9 x1 x2 x3 x4 x6 x7 x8 s0 s1 M Q) : zV G X M [(0, zR G 47), (1, .int x1), (2, .int x2), (3, .int x3), (4, .int x4), (6, .int x6), (7, .int x7), (8, .long x8)] [.int s1, .int s0] 85 := by
  unfold f_X8_turnOf_b85 at h
  refine zr_iadd C dX8_turnOf_85 ?_
  refine zr_letI (fun v11 hv11 => ?_)
  have h := h v11 hv11
  refine zr_istore C [1, 2, 3, 4, 5, 0, 6, 7, 8] dX8_turnOf_86 (by decide) rfl (lv' := [(0, zR G 47), (1, .int x1), (2, .int x2), (3, .int x3), (4, .int x4), (5, .int v11), (6, .int x6), (7, .int x7), (8, .long x8)]) ?_
  refine zr_iload C 6 dX8_turnOf_88 rfl ?_
  refine zr_lload C 8 dX8_turnOf_90 rfl ?_
  refine zr_lconst C (v := 0) dX8_turnOf_92 (by decide) ?_
  refine zr_lcmp_ge C 101 dX8_turnOf_93 dX8_turnOf_94 (by decide) (fun c => ?_) (fun c => ?_)
  · have h := h.1 c
    refine zr_iconst C (v := 0) dX8_turnOf_101 (by decide) ?_
    refine zr_sub [0, 1, 2, 3, 4, 5, 7] rfl (lv' := [(0, zR G 47), (1, .int x1), (2, .int x2), (3, .int x3), (4, .int x4), (5, .int v11), (7, .int x7)]) ?_
    exact w_X8_turnOf_b102 C N Q R _ _ _ _ _ _ _ _ _ hk9 _ h
  · have h := h.2 c
    refine zr_iconst C (v := 1) dX8_turnOf_97 (by decide) ?_
    refine zr_goto C 102 dX8_turnOf_98 (by decide) ?_
    refine zr_sub [0, 1, 2, 3, 4, 5, 7] rfl (lv' := [(0, zR G 47), (1, .int x1), (2, .int x2), (3, .int x3), (4, .int x4), (5, .int v11), (7, .int x7)]) ?_
    exact w_X8_turnOf_b102 C N Q R _ _ _ _ _ _ _ _ _ hk9 _ h
set_option maxHeartbeats 4000000 in
set_option maxRecDepth 100000 in
theorem w_X8_turnOf_b9 {G : zG} {X : zX} (C : zC G X cX8_turnOf RX8 2 10) (N : Nat) (Q : Int32 → zMem → Prop) (R : zRI G X cX8_turnOf Q) (x1 : Int32) (x2 : Int32) (x3 : Int32) (x4 : Int32) (k9 : Int32 → Int32 → Int32 → zMem → Prop) (hk9 : ∀ (z5 : Int32) (z6 : Int32) (z7 : Int32) (M : zMem), k9 z5 z6 z7 M → zV G X M [(0, zR G 47), (1, .int x1), (2, .int x2), (3, .int x3), (4, .int x4), (5, .int z5), (6, .int z6), (7, .int z7)] [] 9) (x5 : Int32) (x6 : Int32) (x7 : Int32) (M : zMem) (h : f_X8_turnOf_b9 N k9 x1 x2 x3 x4 x5 x6 x7 M Q) : zV G X M [(0, zR G 47), (1, .int x1), (2, .int x2), (3, .int x3), (4, .int x4), (5, .int x5), (6, .int x6), (7, .int x7)] [] 9 := by
  unfold f_X8_turnOf_b9 at h
  refine zr_iload C 7 dX8_turnOf_9 rfl ?_
  refine zr_bipush C (v := 9) dX8_turnOf_11 (by decide) ?_
  refine zr_icmp_ge C 111 dX8_turnOf_13 (by decide) (fun c => ?_) (fun c => ?_)
  · have h := h.1 c
    refine zr_iload C 5 dX8_turnOf_111 rfl ?_
    refine zr_bipush C (v := 9) dX8_turnOf_113 (by decide) ?_
    refine zr_icmp_ne C 122 dX8_turnOf_115 (by decide) (fun c => ?_) (fun c => ?_)
    · have h := h.1 c
      refine zr_iload C 6 dX8_turnOf_122 rfl ?_
      refine zr_bipush C (v := 9) dX8_turnOf_124 (by decide) ?_
      refine zr_icmp_ne C 133 dX8_turnOf_126 (by decide) (fun c => ?_) (fun c => ?_)
      · have h := h.1 c
        refine zr_iconst C (v := 0) dX8_turnOf_133 (by decide) ?_
        exact R _ _ _ _ h dX8_turnOf_134
      · have h := h.2 c
        refine zr_iconst C (v := -1) dX8_turnOf_129 (by decide) ?_
        refine zr_goto C 134 dX8_turnOf_130 (by decide) ?_
        exact R _ _ _ _ h dX8_turnOf_134
    · have h := h.2 c
      refine zr_iconst C (v := 1) dX8_turnOf_118 (by decide) ?_
      refine zr_goto C 134 dX8_turnOf_119 (by decide) ?_
      exact R _ _ _ _ h dX8_turnOf_134
  · have h := h.2 c
    refine zr_aload_n C 0 dX8_turnOf_16 rfl rfl ?_
    refine zr_iload_n C 1 dX8_turnOf_17 rfl rfl ?_
    refine zr_iload_n C 2 dX8_turnOf_18 rfl rfl ?_
    refine zr_iload C 7 dX8_turnOf_19 rfl ?_
    refine zr_iconst C (v := 3) dX8_turnOf_21 (by decide) ?_
    refine zr_idiv C dX8_turnOf_22 (by decide) ?_
    refine zr_iconst C (v := 0) dX8_turnOf_23 (by decide) ?_
    refine zcI (zrunV C (rest := []) (c_X8_stepOf X.2.1 G N _ _ _ _ _ _ h) zk_X8_stepOf zl_X8_151 (zRc_7 zo_47) (by decide) (by decide) rfl (Nat.le_of_ble_eq_true rfl) rfl dX8_turnOf_24) (fun r1 M2 h => ?_)
    refine zr_i2l C dX8_turnOf_27 ?_
    refine zr_aload_n C 0 dX8_turnOf_28 rfl rfl ?_
    refine zr_iload_n C 1 dX8_turnOf_29 rfl rfl ?_
    refine zr_iload_n C 2 dX8_turnOf_30 rfl rfl ?_
    refine zr_iload C 7 dX8_turnOf_31 rfl ?_
    refine zr_iconst C (v := 3) dX8_turnOf_33 (by decide) ?_
    refine zr_idiv C dX8_turnOf_34 (by decide) ?_
    refine zr_iconst C (v := 1) dX8_turnOf_35 (by decide) ?_
    refine zcI (zrunV C (rest := [.long (r1.toInt64)]) (c_X8_stepOf X.2.1 G N _ _ _ _ _ _ h) zk_X8_stepOf zl_X8_151 (zRc_7 zo_47) (by decide) (by decide) rfl (Nat.le_of_ble_eq_true rfl) rfl dX8_turnOf_36) (fun r3 M4 h => ?_)
    refine zr_i2l C dX8_turnOf_39 ?_
    refine zr_aload_n C 0 dX8_turnOf_40 rfl rfl ?_
    refine zr_iload_n C 3 dX8_turnOf_41 rfl rfl ?_
    refine zr_iload C 4 dX8_turnOf_42 rfl ?_
    refine zr_iload C 7 dX8_turnOf_44 rfl ?_
    refine zr_iconst C (v := 3) dX8_turnOf_46 (by decide) ?_
    refine zr_irem C dX8_turnOf_47 (by decide) ?_
    refine zr_iconst C (v := 0) dX8_turnOf_48 (by decide) ?_
    refine zcI (zrunV C (rest := [.long (r3.toInt64), .long (r1.toInt64)]) (c_X8_stepOf X.2.1 G N _ _ _ _ _ _ h) zk_X8_stepOf zl_X8_151 (zRc_7 zo_47) (by decide) (by decide) rfl (Nat.le_of_ble_eq_true rfl) rfl dX8_turnOf_49) (fun r5 M6 h => ?_)
    refine zr_i2l C dX8_turnOf_52 ?_
    refine zr_aload_n C 0 dX8_turnOf_53 rfl rfl ?_
    refine zr_iload_n C 3 dX8_turnOf_54 rfl rfl ?_
    refine zr_iload C 4 dX8_turnOf_55 rfl ?_
    refine zr_iload C 7 dX8_turnOf_57 rfl ?_
    refine zr_iconst C (v := 3) dX8_turnOf_59 (by decide) ?_
    refine zr_irem C dX8_turnOf_60 (by decide) ?_
    refine zr_iconst C (v := 1) dX8_turnOf_61 (by decide) ?_
    refine zcI (zrunV C (rest := [.long (r5.toInt64), .long (r3.toInt64), .long (r1.toInt64)]) (c_X8_stepOf X.2.1 G N _ _ _ _ _ _ h) zk_X8_stepOf zl_X8_151 (zRc_7 zo_47) (by decide) (by decide) rfl (Nat.le_of_ble_eq_true rfl) rfl dX8_turnOf_62) (fun r7 M8 h => ?_)
    refine zr_i2l C dX8_turnOf_65 ?_
    refine zcL (zrunS C (rest := []) (c_X8_cross X.2.1 G N _ _ _ _ _ _ h) zk_X8_cross zl_X8_121 (by decide) (by decide) rfl (Nat.le_of_ble_eq_true rfl) rfl dX8_turnOf_66) (fun r9 M10 h => ?_)
    refine zr_lstore C [1, 2, 3, 4, 5, 6, 7, 8, 0] dX8_turnOf_69 (by decide) rfl (lv' := [(0, zR G 47), (1, .int x1), (2, .int x2), (3, .int x3), (4, .int x4), (5, .int x5), (6, .int x6), (7, .int x7), (8, .long r9)]) ?_
    refine zr_iload C 5 dX8_turnOf_71 rfl ?_
    refine zr_lload C 8 dX8_turnOf_73 rfl ?_
    refine zr_lconst C (v := 0) dX8_turnOf_75 (by decide) ?_
    refine zr_lcmp_le C 84 dX8_turnOf_76 dX8_turnOf_77 (by decide) (fun c => ?_) (fun c => ?_)
    · have h := h.1 c
      refine zr_iconst C (v := 0) dX8_turnOf_84 (by decide) ?_
      refine zr_sub [0, 1, 2, 3, 4, 6, 7, 8] rfl (lv' := [(0, zR G 47), (1, .int x1), (2, .int x2), (3, .int x3), (4, .int x4), (6, .int x6), (7, .int x7), (8, .long r9)]) ?_
      exact w_X8_turnOf_b85 C N Q R _ _ _ _ _ _ _ _ _ _ hk9 _ h
    · have h := h.2 c
      refine zr_iconst C (v := 1) dX8_turnOf_80 (by decide) ?_
      refine zr_goto C 85 dX8_turnOf_81 (by decide) ?_
      refine zr_sub [0, 1, 2, 3, 4, 6, 7, 8] rfl (lv' := [(0, zR G 47), (1, .int x1), (2, .int x2), (3, .int x3), (4, .int x4), (6, .int x6), (7, .int x7), (8, .long r9)]) ?_
      exact w_X8_turnOf_b85 C N Q R _ _ _ _ _ _ _ _ _ _ hk9 _ h
theorem w_X8_turnOf_l9 {G : zG} {X : zX} (C : zC G X cX8_turnOf RX8 2 10) (N : Nat) (Q : Int32 → zMem → Prop) (R : zRI G X cX8_turnOf Q) (x1 : Int32) (x2 : Int32) (x3 : Int32) (x4 : Int32) : ∀ (n : Nat) (x5 : Int32) (x6 : Int32) (x7 : Int32) (M : zMem), f_X8_turnOf_l9 N x1 x2 x3 x4 Q n x5 x6 x7 M → zV G X M [(0, zR G 47), (1, .int x1), (2, .int x2), (3, .int x3), (4, .int x4), (5, .int x5), (6, .int x6), (7, .int x7)] [] 9 := by
  intro n
  induction n with
  | zero => intro x5 x6 x7 M h; exact h.elim
  | succ n ih =>
    intro x5 x6 x7 M h
    exact w_X8_turnOf_b9 C N Q R x1 x2 x3 x4  _ ih x5 x6 x7 M h
set_option maxHeartbeats 4000000 in
set_option maxRecDepth 100000 in
theorem c_X8_turnOf (l : Launch) (G : zG) (N : Nat) (x1 : Int32) (x2 : Int32) (x3 : Int32) (x4 : Int32) (M : zMem) (Q : Int32 → zMem → Prop) (h : f_X8_turnOf N x1 x2 x3 x4 M Q) : zMI l G yX8_turnOf cX8_turnOf 10 .int 2 [zR G 47, .int x1, .int x2, .int x3, .int x4] M Q := by
  refine zEI (by decide) (Nat.le_of_ble_eq_true rfl) (lv := [(0, zR G 47), (1, .int x1), (2, .int x2), (3, .int x3), (4, .int x4)]) rfl (fun X C R => ?_)
  have C : zC G X cX8_turnOf RX8 2 10 := C
  unfold f_X8_turnOf at h
  refine zr_iconst C (v := 0) dX8_turnOf_0 (by decide) ?_
  refine zr_istore C [1, 2, 3, 4, 5, 0] dX8_turnOf_1 (by decide) rfl (lv' := [(0, zR G 47), (1, .int x1), (2, .int x2), (3, .int x3), (4, .int x4), (5, .int (0 : Int32))]) ?_
  refine zr_iconst C (v := 0) dX8_turnOf_3 (by decide) ?_
  refine zr_istore C [1, 2, 3, 4, 5, 6, 0] dX8_turnOf_4 (by decide) rfl (lv' := [(0, zR G 47), (1, .int x1), (2, .int x2), (3, .int x3), (4, .int x4), (5, .int (0 : Int32)), (6, .int (0 : Int32))]) ?_
  refine zr_iconst C (v := 0) dX8_turnOf_6 (by decide) ?_
  refine zr_istore C [1, 2, 3, 4, 5, 6, 7, 0] dX8_turnOf_7 (by decide) rfl (lv' := [(0, zR G 47), (1, .int x1), (2, .int x2), (3, .int x3), (4, .int x4), (5, .int (0 : Int32)), (6, .int (0 : Int32)), (7, .int (0 : Int32))]) ?_
  exact w_X8_turnOf_l9 C N Q R _ _ _ _ N _ _ _ _ h
/-! X8_isAcross -/
set_option maxHeartbeats 4000000 in
set_option maxRecDepth 100000 in
theorem c_X8_isAcross (l : Launch) (G : zG) (N : Nat) (x1 : Int32) (x2 : Int32) (x3 : Int32) (x4 : Int32) (M : zMem) (Q : Int32 → zMem → Prop) (h : f_X8_isAcross N x1 x2 x3 x4 M Q) : zMI l G yX8_isAcross cX8_isAcross 5 .boolean 4 [zR G 47, .int x1, .int x2, .int x3, .int x4] M Q := by
  refine zEZ (by decide) (Nat.le_of_ble_eq_true rfl) (lv := [(0, zR G 47), (1, .int x1), (2, .int x2), (3, .int x3), (4, .int x4)]) rfl (fun X C R => ?_)
  have C : zC G X cX8_isAcross RX8 4 5 := C
  unfold f_X8_isAcross at h
  refine zr_aload_n C 0 dX8_isAcross_0 rfl rfl ?_
  refine zr_iload_n C 1 dX8_isAcross_1 rfl rfl ?_
  refine zr_iload_n C 2 dX8_isAcross_2 rfl rfl ?_
  refine zr_iload_n C 3 dX8_isAcross_3 rfl rfl ?_
  refine zr_iload C 4 dX8_isAcross_4 rfl ?_
  refine zr_iconst C (v := 1) dX8_isAcross_6 (by decide) ?_
  refine zr_iconst C (v := 3) dX8_isAcross_7 (by decide) ?_
  refine zcI (zrunV C (rest := []) (c_X8_beyond X.2.1 G N _ _ _ _ _ _ _ _ h) zk_X8_beyond zl_X8_136 (zRc_7 zo_47) (by decide) (by decide) rfl (Nat.le_of_ble_eq_true rfl) rfl dX8_isAcross_8) (fun r1 M2 h => ?_)
  refine zr_iconst C (v := 1) dX8_isAcross_11 (by decide) ?_
  refine zr_icmp_ne C 34 dX8_isAcross_12 (by decide) (fun c => ?_) (fun c => ?_)
  · have h := h.1 c
    refine zr_iconst C (v := 0) dX8_isAcross_34 (by decide) ?_
    exact R _ _ _ _ zb_0.1 h dX8_isAcross_35
  · have h := h.2 c
    refine zr_aload_n C 0 dX8_isAcross_15 rfl rfl ?_
    refine zr_iload_n C 1 dX8_isAcross_16 rfl rfl ?_
    refine zr_iload_n C 2 dX8_isAcross_17 rfl rfl ?_
    refine zr_iload_n C 3 dX8_isAcross_18 rfl rfl ?_
    refine zr_iload C 4 dX8_isAcross_19 rfl ?_
    refine zr_iconst C (v := 0) dX8_isAcross_21 (by decide) ?_
    refine zr_iconst C (v := 3) dX8_isAcross_22 (by decide) ?_
    refine zcI (zrunV C (rest := []) (c_X8_beyond X.2.1 G N _ _ _ _ _ _ _ _ h) zk_X8_beyond zl_X8_136 (zRc_7 zo_47) (by decide) (by decide) rfl (Nat.le_of_ble_eq_true rfl) rfl dX8_isAcross_23) (fun r3 M4 h => ?_)
    refine zr_iconst C (v := 1) dX8_isAcross_26 (by decide) ?_
    refine zr_icmp_ne C 34 dX8_isAcross_27 (by decide) (fun c => ?_) (fun c => ?_)
    · have h := h.1 c
      refine zr_iconst C (v := 0) dX8_isAcross_34 (by decide) ?_
      exact R _ _ _ _ zb_0.1 h dX8_isAcross_35
    · have h := h.2 c
      refine zr_iconst C (v := 1) dX8_isAcross_30 (by decide) ?_
      refine zr_goto C 35 dX8_isAcross_31 (by decide) ?_
      exact R _ _ _ _ zb_1.1 h dX8_isAcross_35
/-! X8_areCrossed -/
set_option maxHeartbeats 4000000 in
set_option maxRecDepth 100000 in
theorem c_X8_areCrossed (l : Launch) (G : zG) (N : Nat) (x1 : Int32) (x2 : Int32) (x3 : Int32) (x4 : Int32) (M : zMem) (Q : Int32 → zMem → Prop) (h : f_X8_areCrossed N x1 x2 x3 x4 M Q) : zMI l G yX8_areCrossed cX8_areCrossed 5 .boolean 5 [zR G 47, .int x1, .int x2, .int x3, .int x4] M Q := by
  refine zEZ (by decide) (Nat.le_of_ble_eq_true rfl) (lv := [(0, zR G 47), (1, .int x1), (2, .int x2), (3, .int x3), (4, .int x4)]) rfl (fun X C R => ?_)
  have C : zC G X cX8_areCrossed RX8 5 5 := C
  unfold f_X8_areCrossed at h
  refine zr_aload_n C 0 dX8_areCrossed_0 rfl rfl ?_
  refine zr_iload_n C 1 dX8_areCrossed_1 rfl rfl ?_
  refine zr_iload_n C 2 dX8_areCrossed_2 rfl rfl ?_
  refine zr_iload_n C 3 dX8_areCrossed_3 rfl rfl ?_
  refine zr_iload C 4 dX8_areCrossed_4 rfl ?_
  refine zcI (zrunV C (rest := []) (c_X8_turnOf X.2.1 G N _ _ _ _ _ _ h) zk_X8_turnOf zl_X8_154 (zRc_7 zo_47) (by decide) (by decide) rfl (Nat.le_of_ble_eq_true rfl) rfl dX8_areCrossed_6) (fun r1 M2 h => ?_)
  refine zr_if_eq C 40 dX8_areCrossed_9 (by decide) (fun c => ?_) (fun c => ?_)
  · have h := h.1 c
    refine zr_iconst C (v := 0) dX8_areCrossed_40 (by decide) ?_
    exact R _ _ _ _ zb_0.1 h dX8_areCrossed_41
  · have h := h.2 c
    refine zr_aload_n C 0 dX8_areCrossed_12 rfl rfl ?_
    refine zr_iload_n C 1 dX8_areCrossed_13 rfl rfl ?_
    refine zr_iload_n C 2 dX8_areCrossed_14 rfl rfl ?_
    refine zr_iload_n C 3 dX8_areCrossed_15 rfl rfl ?_
    refine zr_iload C 4 dX8_areCrossed_16 rfl ?_
    refine zcI (zrunV C (rest := []) (c_X8_isAcross X.2.1 G N _ _ _ _ _ _ h) zk_X8_isAcross zl_X8_157 (zRc_7 zo_47) (by decide) (by decide) rfl (Nat.le_of_ble_eq_true rfl) rfl dX8_areCrossed_18) (fun r3 M4 h => ?_)
    refine zr_if_eq C 40 dX8_areCrossed_21 (by decide) (fun c => ?_) (fun c => ?_)
    · have h := h.1 c
      refine zr_iconst C (v := 0) dX8_areCrossed_40 (by decide) ?_
      exact R _ _ _ _ zb_0.1 h dX8_areCrossed_41
    · have h := h.2 c
      refine zr_aload_n C 0 dX8_areCrossed_24 rfl rfl ?_
      refine zr_iload_n C 3 dX8_areCrossed_25 rfl rfl ?_
      refine zr_iload C 4 dX8_areCrossed_26 rfl ?_
      refine zr_iload_n C 1 dX8_areCrossed_28 rfl rfl ?_
      refine zr_iload_n C 2 dX8_areCrossed_29 rfl rfl ?_
      refine zcI (zrunV C (rest := []) (c_X8_isAcross X.2.1 G N _ _ _ _ _ _ h) zk_X8_isAcross zl_X8_157 (zRc_7 zo_47) (by decide) (by decide) rfl (Nat.le_of_ble_eq_true rfl) rfl dX8_areCrossed_30) (fun r5 M6 h => ?_)
      refine zr_if_eq C 40 dX8_areCrossed_33 (by decide) (fun c => ?_) (fun c => ?_)
      · have h := h.1 c
        refine zr_iconst C (v := 0) dX8_areCrossed_40 (by decide) ?_
        exact R _ _ _ _ zb_0.1 h dX8_areCrossed_41
      · have h := h.2 c
        refine zr_iconst C (v := 1) dX8_areCrossed_36 (by decide) ?_
        refine zr_goto C 41 dX8_areCrossed_37 (by decide) ?_
        exact R _ _ _ _ zb_1.1 h dX8_areCrossed_41
/-! X8_point -/
set_option maxHeartbeats 4000000 in
set_option maxRecDepth 100000 in
theorem c_X8_point (l : Launch) (G : zG) (N : Nat) (x1 : Int32) (x2 : Int32) (x3 : Int32) (x4 : Int32) (M : zMem) (Q : Int32 → zMem → Prop) (h : f_X8_point N x1 x2 x3 x4 M Q) : zMI l G yX8_point cX8_point 5 .int 4 [zR G 47, .int x1, .int x2, .int x3, .int x4] M Q := by
  refine zEI (by decide) (Nat.le_of_ble_eq_true rfl) (lv := [(0, zR G 47), (1, .int x1), (2, .int x2), (3, .int x3), (4, .int x4)]) rfl (fun X C R => ?_)
  have C : zC G X cX8_point RX8 4 5 := C
  unfold f_X8_point at h
  refine zr_aload_n C 0 dX8_point_0 rfl rfl ?_
  refine zr_iconst C (v := 0) dX8_point_1 (by decide) ?_
  refine zp_X8_60 C zo_47 dX8_point_2 ?_
  refine zr_letM (fun M1 hM1 => ?_)
  have h := h M1 hM1
  refine zr_aload_n C 0 dX8_point_5 rfl rfl ?_
  refine zr_iload_n C 1 dX8_point_6 rfl rfl ?_
  refine zcI (zrunV C (rest := []) (c_X8_isArc X.2.1 G N _ _ _ h) zk_X8_isArc zl_X8_160 (zRc_7 zo_47) (by decide) (by decide) rfl (Nat.le_of_ble_eq_true rfl) rfl dX8_point_7) (fun r2 M3 h => ?_)
  refine zr_if_eq C 39 dX8_point_10 (by decide) (fun c => ?_) (fun c => ?_)
  · have h := h.1 c
    refine zr_ldc C zkc_X8_166 dX8_point_39 ?_
    exact R _ _ _ _ h dX8_point_41
  · have h := h.2 c
    refine zr_iload_n C 2 dX8_point_13 rfl rfl ?_
    refine zcI (zrunS C (rest := []) (c_X8_isNode X.2.1 G N _ _ _ h) zk_X8_isNode zl_X8_163 (by decide) (by decide) rfl (Nat.le_of_ble_eq_true rfl) rfl dX8_point_14) (fun r4 M5 h => ?_)
    refine zr_if_eq C 39 dX8_point_17 (by decide) (fun c => ?_) (fun c => ?_)
    · have h := h.1 c
      refine zr_ldc C zkc_X8_166 dX8_point_39 ?_
      exact R _ _ _ _ h dX8_point_41
    · have h := h.2 c
      refine zr_iload_n C 3 dX8_point_20 rfl rfl ?_
      refine zr_iconst C (v := 0) dX8_point_21 (by decide) ?_
      refine zr_iconst C (v := 3) dX8_point_22 (by decide) ?_
      refine zcI (zrunS C (rest := []) (c_X8_in X.2.1 G N _ _ _ _ _ h) zk_X8_in zl_X8_63 (by decide) (by decide) rfl (Nat.le_of_ble_eq_true rfl) rfl dX8_point_23) (fun r6 M7 h => ?_)
      refine zr_if_eq C 39 dX8_point_26 (by decide) (fun c => ?_) (fun c => ?_)
      · have h := h.1 c
        refine zr_ldc C zkc_X8_166 dX8_point_39 ?_
        exact R _ _ _ _ h dX8_point_41
      · have h := h.2 c
        refine zr_iload C 4 dX8_point_29 rfl ?_
        refine zr_iconst C (v := 0) dX8_point_31 (by decide) ?_
        refine zr_iconst C (v := 1) dX8_point_32 (by decide) ?_
        refine zcI (zrunS C (rest := []) (c_X8_in X.2.1 G N _ _ _ _ _ h) zk_X8_in zl_X8_63 (by decide) (by decide) rfl (Nat.le_of_ble_eq_true rfl) rfl dX8_point_33) (fun r8 M9 h => ?_)
        refine zr_if_ne C 42 dX8_point_36 (by decide) (fun c => ?_) (fun c => ?_)
        · have h := h.1 c
          refine zr_aload_n C 0 dX8_point_42 rfl rfl ?_
          refine zcU (zrunV C (rest := []) (c_X8_lays X.2.1 G N  _ _ h) zk_X8_lays zl_X8_167 (zRc_7 zo_47) (by decide) (by decide) rfl (Nat.le_of_ble_eq_true rfl) rfl dX8_point_43) (fun M11 h => ?_)
          refine zr_aload_n C 0 dX8_point_46 rfl rfl ?_
          refine zr_iload_n C 1 dX8_point_47 rfl rfl ?_
          refine zr_iload_n C 2 dX8_point_48 rfl rfl ?_
          refine zr_iload_n C 3 dX8_point_49 rfl rfl ?_
          refine zr_iload C 4 dX8_point_50 rfl ?_
          refine zcI (zrunV C (rest := []) (c_X8_at X.2.1 G N _ _ _ _ _ _ h) zk_X8_at zl_X8_117 (zRc_7 zo_47) (by decide) (by decide) rfl (Nat.le_of_ble_eq_true rfl) rfl dX8_point_52) (fun r12 M13 h => ?_)
          exact R _ _ _ _ h dX8_point_55
        · have h := h.2 c
          refine zr_ldc C zkc_X8_166 dX8_point_39 ?_
          exact R _ _ _ _ h dX8_point_41
/-! X8_arePair -/
set_option maxHeartbeats 4000000 in
set_option maxRecDepth 100000 in
theorem c_X8_arePair (l : Launch) (G : zG) (N : Nat) (x1 : Int32) (x2 : Int32) (M : zMem) (Q : Int32 → zMem → Prop) (h : f_X8_arePair N x1 x2 M Q) : zMI l G yX8_arePair cX8_arePair 3 .boolean 2 [zR G 47, .int x1, .int x2] M Q := by
  refine zEZ (by decide) (Nat.le_of_ble_eq_true rfl) (lv := [(0, zR G 47), (1, .int x1), (2, .int x2)]) rfl (fun X C R => ?_)
  have C : zC G X cX8_arePair RX8 2 3 := C
  unfold f_X8_arePair at h
  refine zr_aload_n C 0 dX8_arePair_0 rfl rfl ?_
  refine zr_iload_n C 1 dX8_arePair_1 rfl rfl ?_
  refine zcI (zrunV C (rest := []) (c_X8_isArc X.2.1 G N _ _ _ h) zk_X8_isArc zl_X8_160 (zRc_7 zo_47) (by decide) (by decide) rfl (Nat.le_of_ble_eq_true rfl) rfl dX8_arePair_2) (fun r1 M2 h => ?_)
  refine zr_if_eq C 25 dX8_arePair_5 (by decide) (fun c => ?_) (fun c => ?_)
  · have h := h.1 c
    refine zr_iconst C (v := 0) dX8_arePair_25 (by decide) ?_
    exact R _ _ _ _ zb_0.1 h dX8_arePair_26
  · have h := h.2 c
    refine zr_aload_n C 0 dX8_arePair_8 rfl rfl ?_
    refine zr_iload_n C 2 dX8_arePair_9 rfl rfl ?_
    refine zcI (zrunV C (rest := []) (c_X8_isArc X.2.1 G N _ _ _ h) zk_X8_isArc zl_X8_160 (zRc_7 zo_47) (by decide) (by decide) rfl (Nat.le_of_ble_eq_true rfl) rfl dX8_arePair_10) (fun r3 M4 h => ?_)
    refine zr_if_eq C 25 dX8_arePair_13 (by decide) (fun c => ?_) (fun c => ?_)
    · have h := h.1 c
      refine zr_iconst C (v := 0) dX8_arePair_25 (by decide) ?_
      exact R _ _ _ _ zb_0.1 h dX8_arePair_26
    · have h := h.2 c
      refine zr_iload_n C 1 dX8_arePair_16 rfl rfl ?_
      refine zr_iload_n C 2 dX8_arePair_17 rfl rfl ?_
      refine zr_icmp_eq C 25 dX8_arePair_18 (by decide) (fun c => ?_) (fun c => ?_)
      · have h := h.1 c
        refine zr_iconst C (v := 0) dX8_arePair_25 (by decide) ?_
        exact R _ _ _ _ zb_0.1 h dX8_arePair_26
      · have h := h.2 c
        refine zr_iconst C (v := 1) dX8_arePair_21 (by decide) ?_
        refine zr_goto C 26 dX8_arePair_22 (by decide) ?_
        exact R _ _ _ _ zb_1.1 h dX8_arePair_26
/-! X8_apart -/
set_option maxHeartbeats 4000000 in
set_option maxRecDepth 100000 in
theorem c_X8_apart (l : Launch) (G : zG) (N : Nat) (x1 : Int32) (x2 : Int32) (x3 : Int32) (x4 : Int32) (M : zMem) (Q : Int32 → zMem → Prop) (h : f_X8_apart N x1 x2 x3 x4 M Q) : zMI l G yX8_apart cX8_apart 5 .int 6 [zR G 47, .int x1, .int x2, .int x3, .int x4] M Q := by
  refine zEI (by decide) (Nat.le_of_ble_eq_true rfl) (lv := [(0, zR G 47), (1, .int x1), (2, .int x2), (3, .int x3), (4, .int x4)]) rfl (fun X C R => ?_)
  have C : zC G X cX8_apart RX8 6 5 := C
  unfold f_X8_apart at h
  refine zr_aload_n C 0 dX8_apart_0 rfl rfl ?_
  refine zr_iconst C (v := 0) dX8_apart_1 (by decide) ?_
  refine zp_X8_60 C zo_47 dX8_apart_2 ?_
  refine zr_letM (fun M1 hM1 => ?_)
  have h := h M1 hM1
  refine zr_aload_n C 0 dX8_apart_5 rfl rfl ?_
  refine zr_iload_n C 1 dX8_apart_6 rfl rfl ?_
  refine zr_iload_n C 3 dX8_apart_7 rfl rfl ?_
  refine zcI (zrunV C (rest := []) (c_X8_arePair X.2.1 G N _ _ _ _ h) zk_X8_arePair zl_X8_170 (zRc_7 zo_47) (by decide) (by decide) rfl (Nat.le_of_ble_eq_true rfl) rfl dX8_apart_8) (fun r2 M3 h => ?_)
  refine zr_if_eq C 29 dX8_apart_11 (by decide) (fun c => ?_) (fun c => ?_)
  · have h := h.1 c
    refine zr_iconst C (v := -1) dX8_apart_29 (by decide) ?_
    exact R _ _ _ _ h dX8_apart_30
  · have h := h.2 c
    refine zr_iload_n C 2 dX8_apart_14 rfl rfl ?_
    refine zcI (zrunS C (rest := []) (c_X8_isNode X.2.1 G N _ _ _ h) zk_X8_isNode zl_X8_163 (by decide) (by decide) rfl (Nat.le_of_ble_eq_true rfl) rfl dX8_apart_15) (fun r4 M5 h => ?_)
    refine zr_if_eq C 29 dX8_apart_18 (by decide) (fun c => ?_) (fun c => ?_)
    · have h := h.1 c
      refine zr_iconst C (v := -1) dX8_apart_29 (by decide) ?_
      exact R _ _ _ _ h dX8_apart_30
    · have h := h.2 c
      refine zr_iload C 4 dX8_apart_21 rfl ?_
      refine zcI (zrunS C (rest := []) (c_X8_isNode X.2.1 G N _ _ _ h) zk_X8_isNode zl_X8_163 (by decide) (by decide) rfl (Nat.le_of_ble_eq_true rfl) rfl dX8_apart_23) (fun r6 M7 h => ?_)
      refine zr_if_ne C 31 dX8_apart_26 (by decide) (fun c => ?_) (fun c => ?_)
      · have h := h.1 c
        refine zr_aload_n C 0 dX8_apart_31 rfl rfl ?_
        refine zcU (zrunV C (rest := []) (c_X8_lays X.2.1 G N  _ _ h) zk_X8_lays zl_X8_167 (zRc_7 zo_47) (by decide) (by decide) rfl (Nat.le_of_ble_eq_true rfl) rfl dX8_apart_32) (fun M9 h => ?_)
        refine zr_aload_n C 0 dX8_apart_35 rfl rfl ?_
        refine zr_iload_n C 1 dX8_apart_36 rfl rfl ?_
        refine zr_iload_n C 2 dX8_apart_37 rfl rfl ?_
        refine zr_iload_n C 3 dX8_apart_38 rfl rfl ?_
        refine zr_iload C 4 dX8_apart_39 rfl ?_
        refine zcI (zrunV C (rest := []) (c_X8_apartOf X.2.1 G N _ _ _ _ _ _ h) zk_X8_apartOf zl_X8_174 (zRc_7 zo_47) (by decide) (by decide) rfl (Nat.le_of_ble_eq_true rfl) rfl dX8_apart_41) (fun r10 M11 h => ?_)
        exact R _ _ _ _ h dX8_apart_44
      · have h := h.2 c
        refine zr_iconst C (v := -1) dX8_apart_29 (by decide) ?_
        exact R _ _ _ _ h dX8_apart_30
/-! X8_turn -/
set_option maxHeartbeats 4000000 in
set_option maxRecDepth 100000 in
theorem w_X8_turn_b65 {G : zG} {X : zX} (C : zC G X cX8_turn RX8 6 7) (N : Nat) (Q : Int32 → zMem → Prop) (R : zRI G X cX8_turn Q) (x1 : Int32) (x2 : Int32) (x3 : Int32) (x4 : Int32) (s0 : Int32) (M : zMem) (h : f_X8_turn_b65 N x1 x2 x3 x4 s0 M Q) : zV G X M [(0, zR G 47), (1, .int x1), (2, .int x2), (3, .int x3), (4, .int x4)] [.int s0] 65 := by
  unfold f_X8_turn_b65 at h
  refine zr_istore C [1, 2, 3, 4, 5, 0] dX8_turn_65 (by decide) rfl (lv' := [(0, zR G 47), (1, .int x1), (2, .int x2), (3, .int x3), (4, .int x4), (6, .int s0)]) ?_
  refine zr_aload_n C 0 dX8_turn_67 rfl rfl ?_
  refine zr_iload_n C 1 dX8_turn_68 rfl rfl ?_
  refine zr_iload_n C 2 dX8_turn_69 rfl rfl ?_
  refine zr_iload_n C 3 dX8_turn_70 rfl rfl ?_
  refine zr_iload C 4 dX8_turn_71 rfl ?_
  refine zcI (zrunV C (rest := []) (c_X8_areCrossed X.2.1 G N _ _ _ _ _ _ h) zk_X8_areCrossed zl_X8_177 (zRc_7 zo_47) (by decide) (by decide) rfl (Nat.le_of_ble_eq_true rfl) rfl dX8_turn_73) (fun r12 M13 h => ?_)
  refine zr_if_eq C 86 dX8_turn_76 (by decide) (fun c => ?_) (fun c => ?_)
  · have h := h.1 c
    refine zr_iload C 5 dX8_turn_86 rfl ?_
    exact R _ _ _ _ h dX8_turn_88
  · have h := h.2 c
    refine zr_iload C 5 dX8_turn_79 rfl ?_
    refine zr_iconst C (v := 2) dX8_turn_81 (by decide) ?_
    refine zr_iadd C dX8_turn_82 ?_
    refine zr_goto C 88 dX8_turn_83 (by decide) ?_
    exact R _ _ _ _ h dX8_turn_88
set_option maxHeartbeats 4000000 in
set_option maxRecDepth 100000 in
theorem c_X8_turn (l : Launch) (G : zG) (N : Nat) (x1 : Int32) (x2 : Int32) (x3 : Int32) (x4 : Int32) (M : zMem) (Q : Int32 → zMem → Prop) (h : f_X8_turn N x1 x2 x3 x4 M Q) : zMI l G yX8_turn cX8_turn 7 .int 6 [zR G 47, .int x1, .int x2, .int x3, .int x4] M Q := by
  refine zEI (by decide) (Nat.le_of_ble_eq_true rfl) (lv := [(0, zR G 47), (1, .int x1), (2, .int x2), (3, .int x3), (4, .int x4)]) rfl (fun X C R => ?_)
  have C : zC G X cX8_turn RX8 6 7 := C
  unfold f_X8_turn at h
  refine zr_aload_n C 0 dX8_turn_0 rfl rfl ?_
  refine zr_iconst C (v := 0) dX8_turn_1 (by decide) ?_
  refine zp_X8_60 C zo_47 dX8_turn_2 ?_
  refine zr_letM (fun M1 hM1 => ?_)
  have h := h M1 hM1
  refine zr_aload_n C 0 dX8_turn_5 rfl rfl ?_
  refine zr_iload_n C 1 dX8_turn_6 rfl rfl ?_
  refine zr_iload_n C 3 dX8_turn_7 rfl rfl ?_
  refine zcI (zrunV C (rest := []) (c_X8_arePair X.2.1 G N _ _ _ _ h) zk_X8_arePair zl_X8_170 (zRc_7 zo_47) (by decide) (by decide) rfl (Nat.le_of_ble_eq_true rfl) rfl dX8_turn_8) (fun r2 M3 h => ?_)
  refine zr_if_eq C 29 dX8_turn_11 (by decide) (fun c => ?_) (fun c => ?_)
  · have h := h.1 c
    refine zr_iconst C (v := -1) dX8_turn_29 (by decide) ?_
    exact R _ _ _ _ h dX8_turn_30
  · have h := h.2 c
    refine zr_iload_n C 2 dX8_turn_14 rfl rfl ?_
    refine zcI (zrunS C (rest := []) (c_X8_isNode X.2.1 G N _ _ _ h) zk_X8_isNode zl_X8_163 (by decide) (by decide) rfl (Nat.le_of_ble_eq_true rfl) rfl dX8_turn_15) (fun r4 M5 h => ?_)
    refine zr_if_eq C 29 dX8_turn_18 (by decide) (fun c => ?_) (fun c => ?_)
    · have h := h.1 c
      refine zr_iconst C (v := -1) dX8_turn_29 (by decide) ?_
      exact R _ _ _ _ h dX8_turn_30
    · have h := h.2 c
      refine zr_iload C 4 dX8_turn_21 rfl ?_
      refine zcI (zrunS C (rest := []) (c_X8_isNode X.2.1 G N _ _ _ h) zk_X8_isNode zl_X8_163 (by decide) (by decide) rfl (Nat.le_of_ble_eq_true rfl) rfl dX8_turn_23) (fun r6 M7 h => ?_)
      refine zr_if_ne C 31 dX8_turn_26 (by decide) (fun c => ?_) (fun c => ?_)
      · have h := h.1 c
        refine zr_aload_n C 0 dX8_turn_31 rfl rfl ?_
        refine zcU (zrunV C (rest := []) (c_X8_lays X.2.1 G N  _ _ h) zk_X8_lays zl_X8_167 (zRc_7 zo_47) (by decide) (by decide) rfl (Nat.le_of_ble_eq_true rfl) rfl dX8_turn_32) (fun M9 h => ?_)
        refine zr_aload_n C 0 dX8_turn_35 rfl rfl ?_
        refine zr_iload_n C 1 dX8_turn_36 rfl rfl ?_
        refine zr_iload_n C 2 dX8_turn_37 rfl rfl ?_
        refine zr_iload_n C 3 dX8_turn_38 rfl rfl ?_
        refine zr_iload C 4 dX8_turn_39 rfl ?_
        refine zcI (zrunV C (rest := []) (c_X8_turnOf X.2.1 G N _ _ _ _ _ _ h) zk_X8_turnOf zl_X8_154 (zRc_7 zo_47) (by decide) (by decide) rfl (Nat.le_of_ble_eq_true rfl) rfl dX8_turn_41) (fun r10 M11 h => ?_)
        refine zr_istore C [1, 2, 3, 4, 5, 0] dX8_turn_44 (by decide) rfl (lv' := [(0, zR G 47), (1, .int x1), (2, .int x2), (3, .int x3), (4, .int x4), (5, .int r10)]) ?_
        refine zr_iload C 5 dX8_turn_46 rfl ?_
        refine zr_if_ne C 55 dX8_turn_48 (by decide) (fun c => ?_) (fun c => ?_)
        · have h := h.1 c
          refine zr_iload C 5 dX8_turn_55 rfl ?_
          refine zr_if_le C 64 dX8_turn_57 (by decide) (fun c => ?_) (fun c => ?_)
          · have h := h.1 c
            refine zr_iconst C (v := 2) dX8_turn_64 (by decide) ?_
            refine zr_sub [0, 1, 2, 3, 4] rfl (lv' := [(0, zR G 47), (1, .int x1), (2, .int x2), (3, .int x3), (4, .int x4)]) ?_
            exact w_X8_turn_b65 C N Q R _ _ _ _ _ _ h
          · have h := h.2 c
            refine zr_iconst C (v := 1) dX8_turn_60 (by decide) ?_
            refine zr_goto C 65 dX8_turn_61 (by decide) ?_
            refine zr_sub [0, 1, 2, 3, 4] rfl (lv' := [(0, zR G 47), (1, .int x1), (2, .int x2), (3, .int x3), (4, .int x4)]) ?_
            exact w_X8_turn_b65 C N Q R _ _ _ _ _ _ h
        · have h := h.2 c
          refine zr_iconst C (v := 0) dX8_turn_51 (by decide) ?_
          refine zr_goto C 65 dX8_turn_52 (by decide) ?_
          refine zr_sub [0, 1, 2, 3, 4] rfl (lv' := [(0, zR G 47), (1, .int x1), (2, .int x2), (3, .int x3), (4, .int x4)]) ?_
          exact w_X8_turn_b65 C N Q R _ _ _ _ _ _ h
      · have h := h.2 c
        refine zr_iconst C (v := -1) dX8_turn_29 (by decide) ?_
        exact R _ _ _ _ h dX8_turn_30
/-! X8_signOf -/
set_option maxHeartbeats 4000000 in
set_option maxRecDepth 100000 in
theorem c_X8_signOf (l : Launch) (G : zG) (N : Nat) (x0 : Int32) (x1 : Int32) (M : zMem) (Q : Int32 → zMem → Prop) (h : f_X8_signOf N x0 x1 M Q) : zMI l G yX8_signOf cX8_signOf 2 .int 0 [.int x0, .int x1] M Q := by
  refine zEI (by decide) (Nat.le_of_ble_eq_true rfl) (lv := [(0, .int x0), (1, .int x1)]) rfl (fun X C R => ?_)
  have C : zC G X cX8_signOf RX8 0 2 := C
  unfold f_X8_signOf at h
  refine zr_iload_n C 0 dX8_signOf_0 rfl rfl ?_
  refine zr_if_eq C 16 dX8_signOf_1 (by decide) (fun c => ?_) (fun c => ?_)
  · have h := h.1 c
    refine zr_iload_n C 1 dX8_signOf_16 rfl rfl ?_
    refine zr_if_eq C 24 dX8_signOf_17 (by decide) (fun c => ?_) (fun c => ?_)
    · have h := h.1 c
      refine zr_iconst C (v := 0) dX8_signOf_24 (by decide) ?_
      exact R _ _ _ _ h dX8_signOf_25
    · have h := h.2 c
      refine zr_iconst C (v := 2) dX8_signOf_20 (by decide) ?_
      refine zr_goto C 25 dX8_signOf_21 (by decide) ?_
      exact R _ _ _ _ h dX8_signOf_25
  · have h := h.2 c
    refine zr_iload_n C 1 dX8_signOf_4 rfl rfl ?_
    refine zr_if_eq C 12 dX8_signOf_5 (by decide) (fun c => ?_) (fun c => ?_)
    · have h := h.1 c
      refine zr_iconst C (v := 1) dX8_signOf_12 (by decide) ?_
      refine zr_goto C 25 dX8_signOf_13 (by decide) ?_
      exact R _ _ _ _ h dX8_signOf_25
    · have h := h.2 c
      refine zr_iconst C (v := 3) dX8_signOf_8 (by decide) ?_
      refine zr_goto C 25 dX8_signOf_9 (by decide) ?_
      exact R _ _ _ _ h dX8_signOf_25
/-! X8_bend -/
set_option maxHeartbeats 4000000 in
set_option maxRecDepth 100000 in
theorem c_X8_bend (l : Launch) (G : zG) (N : Nat) (x1 : Int32) (x2 : Int32) (x3 : Int32) (M : zMem) (Q : Int64 → zMem → Prop) (h : f_X8_bend N x1 x2 x3 M Q) : zML l G yX8_bend cX8_bend 4 2 [zR G 47, .int x1, .int x2, .int x3] M Q := by
  refine zEL (by decide) (Nat.le_of_ble_eq_true rfl) (lv := [(0, zR G 47), (1, .int x1), (2, .int x2), (3, .int x3)]) rfl (fun X C R => ?_)
  have C : zC G X cX8_bend RX8 2 4 := C
  unfold f_X8_bend at h
  refine zr_aload_n C 0 dX8_bend_0 rfl rfl ?_
  refine zr_iload_n C 1 dX8_bend_1 rfl rfl ?_
  refine zr_iload_n C 2 dX8_bend_2 rfl rfl ?_
  refine zr_iload_n C 3 dX8_bend_3 rfl rfl ?_
  refine zr_iconst C (v := 0) dX8_bend_4 (by decide) ?_
  refine zcI (zrunV C (rest := []) (c_X8_stepOf X.2.1 G N _ _ _ _ _ _ h) zk_X8_stepOf zl_X8_151 (zRc_7 zo_47) (by decide) (by decide) rfl (Nat.le_of_ble_eq_true rfl) rfl dX8_bend_5) (fun r1 M2 h => ?_)
  refine zr_i2l C dX8_bend_8 ?_
  refine zr_aload_n C 0 dX8_bend_9 rfl rfl ?_
  refine zr_iload_n C 1 dX8_bend_10 rfl rfl ?_
  refine zr_iload_n C 2 dX8_bend_11 rfl rfl ?_
  refine zr_iload_n C 3 dX8_bend_12 rfl rfl ?_
  refine zr_iconst C (v := 1) dX8_bend_13 (by decide) ?_
  refine zcI (zrunV C (rest := [.long (r1.toInt64)]) (c_X8_stepOf X.2.1 G N _ _ _ _ _ _ h) zk_X8_stepOf zl_X8_151 (zRc_7 zo_47) (by decide) (by decide) rfl (Nat.le_of_ble_eq_true rfl) rfl dX8_bend_14) (fun r3 M4 h => ?_)
  refine zr_i2l C dX8_bend_17 ?_
  refine zr_aload_n C 0 dX8_bend_18 rfl rfl ?_
  refine zr_iload_n C 1 dX8_bend_19 rfl rfl ?_
  refine zr_iload_n C 2 dX8_bend_20 rfl rfl ?_
  refine zr_iload_n C 3 dX8_bend_21 rfl rfl ?_
  refine zr_iconst C (v := 1) dX8_bend_22 (by decide) ?_
  refine zr_iadd C dX8_bend_23 ?_
  refine zr_iconst C (v := 0) dX8_bend_24 (by decide) ?_
  refine zcI (zrunV C (rest := [.long (r3.toInt64), .long (r1.toInt64)]) (c_X8_stepOf X.2.1 G N _ _ _ _ _ _ h) zk_X8_stepOf zl_X8_151 (zRc_7 zo_47) (by decide) (by decide) rfl (Nat.le_of_ble_eq_true rfl) rfl dX8_bend_25) (fun r5 M6 h => ?_)
  refine zr_i2l C dX8_bend_28 ?_
  refine zr_aload_n C 0 dX8_bend_29 rfl rfl ?_
  refine zr_iload_n C 1 dX8_bend_30 rfl rfl ?_
  refine zr_iload_n C 2 dX8_bend_31 rfl rfl ?_
  refine zr_iload_n C 3 dX8_bend_32 rfl rfl ?_
  refine zr_iconst C (v := 1) dX8_bend_33 (by decide) ?_
  refine zr_iadd C dX8_bend_34 ?_
  refine zr_iconst C (v := 1) dX8_bend_35 (by decide) ?_
  refine zcI (zrunV C (rest := [.long (r5.toInt64), .long (r3.toInt64), .long (r1.toInt64)]) (c_X8_stepOf X.2.1 G N _ _ _ _ _ _ h) zk_X8_stepOf zl_X8_151 (zRc_7 zo_47) (by decide) (by decide) rfl (Nat.le_of_ble_eq_true rfl) rfl dX8_bend_36) (fun r7 M8 h => ?_)
  refine zr_i2l C dX8_bend_39 ?_
  refine zcL (zrunS C (rest := []) (c_X8_cross X.2.1 G N _ _ _ _ _ _ h) zk_X8_cross zl_X8_121 (by decide) (by decide) rfl (Nat.le_of_ble_eq_true rfl) rfl dX8_bend_40) (fun r9 M10 h => ?_)
  exact R _ _ _ _ h dX8_bend_43
/-! X8_bends -/
set_option maxHeartbeats 4000000 in
set_option maxRecDepth 100000 in
theorem w_X8_bends_b84 {G : zG} {X : zX} (C : zC G X cX8_bends RX8 4 3) (N : Nat) (Q : Int32 → zMem → Prop) (R : zRI G X cX8_bends Q) (s0 : Int32) (s1 : Int32) (M : zMem) (h : f_X8_bends_b84 N s0 s1 M Q) : zV G X M [] [.int s1, .int s0] 84 := by
  unfold f_X8_bends_b84 at h
  refine zcI (zrunS C (rest := []) (c_X8_signOf X.2.1 G N _ _ _ _ h) zk_X8_signOf zl_X8_184 (by decide) (by decide) rfl (Nat.le_of_ble_eq_true rfl) rfl dX8_bends_84) (fun r12 M13 h => ?_)
  exact R _ _ _ _ h dX8_bends_87
set_option maxHeartbeats 4000000 in
set_option maxRecDepth 100000 in
theorem w_X8_bends_b79 {G : zG} {X : zX} (C : zC G X cX8_bends RX8 4 3) (N : Nat) (Q : Int32 → zMem → Prop) (R : zRI G X cX8_bends Q) (s0 : Int32) (M : zMem) (h : f_X8_bends_b79 N s0 M Q) : zV G X M [] [.int s0] 79 := by
  unfold f_X8_bends_b79 at h
  refine zr_iconst C (v := 1) dX8_bends_79 (by decide) ?_
  refine zr_goto C 84 dX8_bends_80 (by decide) ?_
  exact w_X8_bends_b84 C N Q R _ _ _ h
set_option maxHeartbeats 4000000 in
set_option maxRecDepth 100000 in
theorem w_X8_bends_b55 {G : zG} {X : zX} (C : zC G X cX8_bends RX8 4 3) (N : Nat) (Q : Int32 → zMem → Prop) (R : zRI G X cX8_bends Q) (x1 : Int32) (x2 : Int32) (s0 : Int32) (M : zMem) (h : f_X8_bends_b55 N x1 x2 s0 M Q) : zV G X M [(0, zR G 47), (1, .int x1), (2, .int x2)] [.int s0] 55 := by
  unfold f_X8_bends_b55 at h
  refine zr_aload_n C 0 dX8_bends_55 rfl rfl ?_
  refine zr_iload_n C 1 dX8_bends_56 rfl rfl ?_
  refine zr_iload_n C 2 dX8_bends_57 rfl rfl ?_
  refine zr_iconst C (v := 0) dX8_bends_58 (by decide) ?_
  refine zcL (zrunV C (rest := [.int s0]) (c_X8_bend X.2.1 G N _ _ _ _ _ h) zk_X8_bend zl_X8_180 (zRc_7 zo_47) (by decide) (by decide) rfl (Nat.le_of_ble_eq_true rfl) rfl dX8_bends_59) (fun r10 M11 h => ?_)
  refine zr_lconst C (v := 0) dX8_bends_62 (by decide) ?_
  refine zr_lcmp_lt C 79 dX8_bends_63 dX8_bends_64 (by decide) (fun c => ?_) (fun c => ?_)
  · have h := h.1 c
    refine zr_sub [] rfl (lv' := []) ?_
    exact w_X8_bends_b79 C N Q R _ _ h
  · have h := h.2 c
    refine zr_aload_n C 0 dX8_bends_67 rfl rfl ?_
    refine zr_iload_n C 1 dX8_bends_68 rfl rfl ?_
    refine zr_iload_n C 2 dX8_bends_69 rfl rfl ?_
    refine zr_iconst C (v := 1) dX8_bends_70 (by decide) ?_
    refine zcL (zrunV C (rest := [.int s0]) (c_X8_bend X.2.1 G N _ _ _ _ _ h) zk_X8_bend zl_X8_180 (zRc_7 zo_47) (by decide) (by decide) rfl (Nat.le_of_ble_eq_true rfl) rfl dX8_bends_71) (fun r14 M15 h => ?_)
    refine zr_lconst C (v := 0) dX8_bends_74 (by decide) ?_
    refine zr_lcmp_ge C 83 dX8_bends_75 dX8_bends_76 (by decide) (fun c => ?_) (fun c => ?_)
    · have h := h.1 c
      refine zr_iconst C (v := 0) dX8_bends_83 (by decide) ?_
      refine zr_sub [] rfl (lv' := []) ?_
      exact w_X8_bends_b84 C N Q R _ _ _ h
    · have h := h.2 c
      refine zr_sub [] rfl (lv' := []) ?_
      exact w_X8_bends_b79 C N Q R _ _ h
set_option maxHeartbeats 4000000 in
set_option maxRecDepth 100000 in
theorem w_X8_bends_b50 {G : zG} {X : zX} (C : zC G X cX8_bends RX8 4 3) (N : Nat) (Q : Int32 → zMem → Prop) (R : zRI G X cX8_bends Q) (x1 : Int32) (x2 : Int32) (M : zMem) (h : f_X8_bends_b50 N x1 x2 M Q) : zV G X M [(0, zR G 47), (1, .int x1), (2, .int x2)] [] 50 := by
  unfold f_X8_bends_b50 at h
  refine zr_iconst C (v := 1) dX8_bends_50 (by decide) ?_
  refine zr_goto C 55 dX8_bends_51 (by decide) ?_
  exact w_X8_bends_b55 C N Q R _ _ _ _ h
set_option maxHeartbeats 4000000 in
set_option maxRecDepth 100000 in
theorem c_X8_bends (l : Launch) (G : zG) (N : Nat) (x1 : Int32) (x2 : Int32) (M : zMem) (Q : Int32 → zMem → Prop) (h : f_X8_bends N x1 x2 M Q) : zMI l G yX8_bends cX8_bends 3 .int 4 [zR G 47, .int x1, .int x2] M Q := by
  refine zEI (by decide) (Nat.le_of_ble_eq_true rfl) (lv := [(0, zR G 47), (1, .int x1), (2, .int x2)]) rfl (fun X C R => ?_)
  have C : zC G X cX8_bends RX8 4 3 := C
  unfold f_X8_bends at h
  refine zr_aload_n C 0 dX8_bends_0 rfl rfl ?_
  refine zr_iconst C (v := 0) dX8_bends_1 (by decide) ?_
  refine zp_X8_60 C zo_47 dX8_bends_2 ?_
  refine zr_letM (fun M1 hM1 => ?_)
  have h := h M1 hM1
  refine zr_aload_n C 0 dX8_bends_5 rfl rfl ?_
  refine zr_iload_n C 1 dX8_bends_6 rfl rfl ?_
  refine zcI (zrunV C (rest := []) (c_X8_isArc X.2.1 G N _ _ _ h) zk_X8_isArc zl_X8_160 (zRc_7 zo_47) (by decide) (by decide) rfl (Nat.le_of_ble_eq_true rfl) rfl dX8_bends_7) (fun r2 M3 h => ?_)
  refine zr_if_eq C 20 dX8_bends_10 (by decide) (fun c => ?_) (fun c => ?_)
  · have h := h.1 c
    refine zr_iconst C (v := -1) dX8_bends_20 (by decide) ?_
    exact R _ _ _ _ h dX8_bends_21
  · have h := h.2 c
    refine zr_iload_n C 2 dX8_bends_13 rfl rfl ?_
    refine zcI (zrunS C (rest := []) (c_X8_isNode X.2.1 G N _ _ _ h) zk_X8_isNode zl_X8_163 (by decide) (by decide) rfl (Nat.le_of_ble_eq_true rfl) rfl dX8_bends_14) (fun r4 M5 h => ?_)
    refine zr_if_ne C 22 dX8_bends_17 (by decide) (fun c => ?_) (fun c => ?_)
    · have h := h.1 c
      refine zr_aload_n C 0 dX8_bends_22 rfl rfl ?_
      refine zcU (zrunV C (rest := []) (c_X8_lays X.2.1 G N  _ _ h) zk_X8_lays zl_X8_167 (zRc_7 zo_47) (by decide) (by decide) rfl (Nat.le_of_ble_eq_true rfl) rfl dX8_bends_23) (fun M7 h => ?_)
      refine zr_aload_n C 0 dX8_bends_26 rfl rfl ?_
      refine zr_iload_n C 1 dX8_bends_27 rfl rfl ?_
      refine zr_iload_n C 2 dX8_bends_28 rfl rfl ?_
      refine zr_iconst C (v := 0) dX8_bends_29 (by decide) ?_
      refine zcL (zrunV C (rest := []) (c_X8_bend X.2.1 G N _ _ _ _ _ h) zk_X8_bend zl_X8_180 (zRc_7 zo_47) (by decide) (by decide) rfl (Nat.le_of_ble_eq_true rfl) rfl dX8_bends_30) (fun r8 M9 h => ?_)
      refine zr_lconst C (v := 0) dX8_bends_33 (by decide) ?_
      refine zr_lcmp_gt C 50 dX8_bends_34 dX8_bends_35 (by decide) (fun c => ?_) (fun c => ?_)
      · have h := h.1 c
        exact w_X8_bends_b50 C N Q R _ _ _ h
      · have h := h.2 c
        refine zr_aload_n C 0 dX8_bends_38 rfl rfl ?_
        refine zr_iload_n C 1 dX8_bends_39 rfl rfl ?_
        refine zr_iload_n C 2 dX8_bends_40 rfl rfl ?_
        refine zr_iconst C (v := 1) dX8_bends_41 (by decide) ?_
        refine zcL (zrunV C (rest := []) (c_X8_bend X.2.1 G N _ _ _ _ _ h) zk_X8_bend zl_X8_180 (zRc_7 zo_47) (by decide) (by decide) rfl (Nat.le_of_ble_eq_true rfl) rfl dX8_bends_42) (fun r16 M17 h => ?_)
        refine zr_lconst C (v := 0) dX8_bends_45 (by decide) ?_
        refine zr_lcmp_le C 54 dX8_bends_46 dX8_bends_47 (by decide) (fun c => ?_) (fun c => ?_)
        · have h := h.1 c
          refine zr_iconst C (v := 0) dX8_bends_54 (by decide) ?_
          exact w_X8_bends_b55 C N Q R _ _ _ _ h
        · have h := h.2 c
          exact w_X8_bends_b50 C N Q R _ _ _ h
    · have h := h.2 c
      refine zr_iconst C (v := -1) dX8_bends_20 (by decide) ?_
      exact R _ _ _ _ h dX8_bends_21
/-! X8_goes -/
set_option maxHeartbeats 4000000 in
set_option maxRecDepth 100000 in
theorem w_X8_goes_b96 {G : zG} {X : zX} (C : zC G X cX8_goes RX8 4 7) (N : Nat) (Q : Int32 → zMem → Prop) (R : zRI G X cX8_goes Q) (x1 : Int32) (x2 : Int32) (x3 : Int32) (x4 : Int32) (x6 : Int32) (s0 : Int32) (k44 : Int32 → Int32 → Int32 → zMem → Prop) (hk44 : ∀ (z4 : Int32) (z5 : Int32) (z6 : Int32) (M : zMem), k44 z4 z5 z6 M → zV G X M [(0, zR G 47), (1, .int x1), (2, .int x2), (3, .int x3), (4, .int z4), (5, .int z5), (6, .int z6)] [] 44) (M : zMem) (h : f_X8_goes_b96 N k44 x1 x2 x3 x4 x6 s0 M Q) : zV G X M [(0, zR G 47), (1, .int x1), (2, .int x2), (3, .int x3), (4, .int x4), (6, .int x6)] [.int s0] 96 := by
  unfold f_X8_goes_b96 at h
  refine zr_istore C [1, 2, 3, 4, 5, 0, 6] dX8_goes_96 (by decide) rfl (lv' := [(0, zR G 47), (1, .int x1), (2, .int x2), (3, .int x3), (4, .int x4), (5, .int s0), (6, .int x6)]) ?_
  obtain ⟨v12, hv12⟩ : ∃ y : Int32, y = x6 + (1 : Int32) := ⟨_, rfl⟩
  have h := h v12 hv12
  refine zr_iinc C 6 [1, 2, 3, 4, 5, 6, 0] dX8_goes_98 rfl (by rw [hv12]; rfl) (by decide) rfl (lv' := [(0, zR G 47), (1, .int x1), (2, .int x2), (3, .int x3), (4, .int x4), (5, .int s0), (6, .int v12)]) ?_
  refine zr_goto C 44 dX8_goes_101 (by decide) ?_
  exact hk44 _ _ _ _ h
set_option maxHeartbeats 4000000 in
set_option maxRecDepth 100000 in
theorem w_X8_goes_b91 {G : zG} {X : zX} (C : zC G X cX8_goes RX8 4 7) (N : Nat) (Q : Int32 → zMem → Prop) (R : zRI G X cX8_goes Q) (x1 : Int32) (x2 : Int32) (x3 : Int32) (x4 : Int32) (x6 : Int32) (k44 : Int32 → Int32 → Int32 → zMem → Prop) (hk44 : ∀ (z4 : Int32) (z5 : Int32) (z6 : Int32) (M : zMem), k44 z4 z5 z6 M → zV G X M [(0, zR G 47), (1, .int x1), (2, .int x2), (3, .int x3), (4, .int z4), (5, .int z5), (6, .int z6)] [] 44) (M : zMem) (h : f_X8_goes_b91 N k44 x1 x2 x3 x4 x6 M Q) : zV G X M [(0, zR G 47), (1, .int x1), (2, .int x2), (3, .int x3), (4, .int x4), (6, .int x6)] [] 91 := by
  unfold f_X8_goes_b91 at h
  refine zr_iconst C (v := 1) dX8_goes_91 (by decide) ?_
  refine zr_goto C 96 dX8_goes_92 (by decide) ?_
  exact w_X8_goes_b96 C N Q R _ _ _ _ _ _ _ hk44 _ h
set_option maxHeartbeats 4000000 in
set_option maxRecDepth 100000 in
theorem w_X8_goes_b72 {G : zG} {X : zX} (C : zC G X cX8_goes RX8 4 7) (N : Nat) (Q : Int32 → zMem → Prop) (R : zRI G X cX8_goes Q) (x1 : Int32) (x2 : Int32) (x3 : Int32) (x5 : Int32) (x6 : Int32) (s0 : Int32) (k44 : Int32 → Int32 → Int32 → zMem → Prop) (hk44 : ∀ (z4 : Int32) (z5 : Int32) (z6 : Int32) (M : zMem), k44 z4 z5 z6 M → zV G X M [(0, zR G 47), (1, .int x1), (2, .int x2), (3, .int x3), (4, .int z4), (5, .int z5), (6, .int z6)] [] 44) (M : zMem) (h : f_X8_goes_b72 N k44 x1 x2 x3 x5 x6 s0 M Q) : zV G X M [(0, zR G 47), (1, .int x1), (2, .int x2), (3, .int x3), (5, .int x5), (6, .int x6)] [.int s0] 72 := by
  unfold f_X8_goes_b72 at h
  refine zr_istore C [1, 2, 3, 4, 0, 5, 6] dX8_goes_72 (by decide) rfl (lv' := [(0, zR G 47), (1, .int x1), (2, .int x2), (3, .int x3), (4, .int s0), (5, .int x5), (6, .int x6)]) ?_
  refine zr_iload C 5 dX8_goes_74 rfl ?_
  refine zr_if_ne C 91 dX8_goes_76 (by decide) (fun c => ?_) (fun c => ?_)
  · have h := h.1 c
    refine zr_sub [0, 1, 2, 3, 4, 6] rfl (lv' := [(0, zR G 47), (1, .int x1), (2, .int x2), (3, .int x3), (4, .int s0), (6, .int x6)]) ?_
    exact w_X8_goes_b91 C N Q R _ _ _ _ _ _ hk44 _ h
  · have h := h.2 c
    refine zr_aload_n C 0 dX8_goes_79 rfl rfl ?_
    refine zr_iload_n C 1 dX8_goes_80 rfl rfl ?_
    refine zr_iload_n C 2 dX8_goes_81 rfl rfl ?_
    refine zr_iload C 6 dX8_goes_82 rfl ?_
    refine zr_iload_n C 3 dX8_goes_84 rfl rfl ?_
    refine zcI (zrunV C (rest := []) (c_X8_stepOf X.2.1 G N _ _ _ _ _ _ h) zk_X8_stepOf zl_X8_151 (zRc_7 zo_47) (by decide) (by decide) rfl (Nat.le_of_ble_eq_true rfl) rfl dX8_goes_85) (fun r13 M14 h => ?_)
    refine zr_if_ge C 95 dX8_goes_88 (by decide) (fun c => ?_) (fun c => ?_)
    · have h := h.1 c
      refine zr_iconst C (v := 0) dX8_goes_95 (by decide) ?_
      refine zr_sub [0, 1, 2, 3, 4, 6] rfl (lv' := [(0, zR G 47), (1, .int x1), (2, .int x2), (3, .int x3), (4, .int s0), (6, .int x6)]) ?_
      exact w_X8_goes_b96 C N Q R _ _ _ _ _ _ _ hk44 _ h
    · have h := h.2 c
      refine zr_sub [0, 1, 2, 3, 4, 6] rfl (lv' := [(0, zR G 47), (1, .int x1), (2, .int x2), (3, .int x3), (4, .int s0), (6, .int x6)]) ?_
      exact w_X8_goes_b91 C N Q R _ _ _ _ _ _ hk44 _ h
set_option maxHeartbeats 4000000 in
set_option maxRecDepth 100000 in
theorem w_X8_goes_b67 {G : zG} {X : zX} (C : zC G X cX8_goes RX8 4 7) (N : Nat) (Q : Int32 → zMem → Prop) (R : zRI G X cX8_goes Q) (x1 : Int32) (x2 : Int32) (x3 : Int32) (x5 : Int32) (x6 : Int32) (k44 : Int32 → Int32 → Int32 → zMem → Prop) (hk44 : ∀ (z4 : Int32) (z5 : Int32) (z6 : Int32) (M : zMem), k44 z4 z5 z6 M → zV G X M [(0, zR G 47), (1, .int x1), (2, .int x2), (3, .int x3), (4, .int z4), (5, .int z5), (6, .int z6)] [] 44) (M : zMem) (h : f_X8_goes_b67 N k44 x1 x2 x3 x5 x6 M Q) : zV G X M [(0, zR G 47), (1, .int x1), (2, .int x2), (3, .int x3), (5, .int x5), (6, .int x6)] [] 67 := by
  unfold f_X8_goes_b67 at h
  refine zr_iconst C (v := 1) dX8_goes_67 (by decide) ?_
  refine zr_goto C 72 dX8_goes_68 (by decide) ?_
  exact w_X8_goes_b72 C N Q R _ _ _ _ _ _ _ hk44 _ h
set_option maxHeartbeats 4000000 in
set_option maxRecDepth 100000 in
theorem w_X8_goes_b44 {G : zG} {X : zX} (C : zC G X cX8_goes RX8 4 7) (N : Nat) (Q : Int32 → zMem → Prop) (R : zRI G X cX8_goes Q) (x1 : Int32) (x2 : Int32) (x3 : Int32) (k44 : Int32 → Int32 → Int32 → zMem → Prop) (hk44 : ∀ (z4 : Int32) (z5 : Int32) (z6 : Int32) (M : zMem), k44 z4 z5 z6 M → zV G X M [(0, zR G 47), (1, .int x1), (2, .int x2), (3, .int x3), (4, .int z4), (5, .int z5), (6, .int z6)] [] 44) (x4 : Int32) (x5 : Int32) (x6 : Int32) (M : zMem) (h : f_X8_goes_b44 N k44 x1 x2 x3 x4 x5 x6 M Q) : zV G X M [(0, zR G 47), (1, .int x1), (2, .int x2), (3, .int x3), (4, .int x4), (5, .int x5), (6, .int x6)] [] 44 := by
  unfold f_X8_goes_b44 at h
  refine zr_iload C 6 dX8_goes_44 rfl ?_
  refine zr_iconst C (v := 3) dX8_goes_46 (by decide) ?_
  refine zr_icmp_ge C 104 dX8_goes_47 (by decide) (fun c => ?_) (fun c => ?_)
  · have h := h.1 c
    refine zr_iload C 4 dX8_goes_104 rfl ?_
    refine zr_iload C 5 dX8_goes_106 rfl ?_
    refine zcI (zrunS C (rest := []) (c_X8_signOf X.2.1 G N _ _ _ _ h) zk_X8_signOf zl_X8_184 (by decide) (by decide) rfl (Nat.le_of_ble_eq_true rfl) rfl dX8_goes_108) (fun r10 M11 h => ?_)
    exact R _ _ _ _ h dX8_goes_111
  · have h := h.2 c
    refine zr_iload C 4 dX8_goes_50 rfl ?_
    refine zr_if_ne C 67 dX8_goes_52 (by decide) (fun c => ?_) (fun c => ?_)
    · have h := h.1 c
      refine zr_sub [0, 1, 2, 3, 5, 6] rfl (lv' := [(0, zR G 47), (1, .int x1), (2, .int x2), (3, .int x3), (5, .int x5), (6, .int x6)]) ?_
      exact w_X8_goes_b67 C N Q R _ _ _ _ _ _ hk44 _ h
    · have h := h.2 c
      refine zr_aload_n C 0 dX8_goes_55 rfl rfl ?_
      refine zr_iload_n C 1 dX8_goes_56 rfl rfl ?_
      refine zr_iload_n C 2 dX8_goes_57 rfl rfl ?_
      refine zr_iload C 6 dX8_goes_58 rfl ?_
      refine zr_iload_n C 3 dX8_goes_60 rfl rfl ?_
      refine zcI (zrunV C (rest := []) (c_X8_stepOf X.2.1 G N _ _ _ _ _ _ h) zk_X8_stepOf zl_X8_151 (zRc_7 zo_47) (by decide) (by decide) rfl (Nat.le_of_ble_eq_true rfl) rfl dX8_goes_61) (fun r15 M16 h => ?_)
      refine zr_if_le C 71 dX8_goes_64 (by decide) (fun c => ?_) (fun c => ?_)
      · have h := h.1 c
        refine zr_iconst C (v := 0) dX8_goes_71 (by decide) ?_
        refine zr_sub [0, 1, 2, 3, 5, 6] rfl (lv' := [(0, zR G 47), (1, .int x1), (2, .int x2), (3, .int x3), (5, .int x5), (6, .int x6)]) ?_
        exact w_X8_goes_b72 C N Q R _ _ _ _ _ _ _ hk44 _ h
      · have h := h.2 c
        refine zr_sub [0, 1, 2, 3, 5, 6] rfl (lv' := [(0, zR G 47), (1, .int x1), (2, .int x2), (3, .int x3), (5, .int x5), (6, .int x6)]) ?_
        exact w_X8_goes_b67 C N Q R _ _ _ _ _ _ hk44 _ h
theorem w_X8_goes_l44 {G : zG} {X : zX} (C : zC G X cX8_goes RX8 4 7) (N : Nat) (Q : Int32 → zMem → Prop) (R : zRI G X cX8_goes Q) (x1 : Int32) (x2 : Int32) (x3 : Int32) : ∀ (n : Nat) (x4 : Int32) (x5 : Int32) (x6 : Int32) (M : zMem), f_X8_goes_l44 N x1 x2 x3 Q n x4 x5 x6 M → zV G X M [(0, zR G 47), (1, .int x1), (2, .int x2), (3, .int x3), (4, .int x4), (5, .int x5), (6, .int x6)] [] 44 := by
  intro n
  induction n with
  | zero => intro x4 x5 x6 M h; exact h.elim
  | succ n ih =>
    intro x4 x5 x6 M h
    exact w_X8_goes_b44 C N Q R x1 x2 x3  _ ih x4 x5 x6 M h
set_option maxHeartbeats 4000000 in
set_option maxRecDepth 100000 in
theorem c_X8_goes (l : Launch) (G : zG) (N : Nat) (x1 : Int32) (x2 : Int32) (x3 : Int32) (M : zMem) (Q : Int32 → zMem → Prop) (h : f_X8_goes N x1 x2 x3 M Q) : zMI l G yX8_goes cX8_goes 7 .int 4 [zR G 47, .int x1, .int x2, .int x3] M Q := by
  refine zEI (by decide) (Nat.le_of_ble_eq_true rfl) (lv := [(0, zR G 47), (1, .int x1), (2, .int x2), (3, .int x3)]) rfl (fun X C R => ?_)
  have C : zC G X cX8_goes RX8 4 7 := C
  unfold f_X8_goes at h
  refine zr_aload_n C 0 dX8_goes_0 rfl rfl ?_
  refine zr_iconst C (v := 0) dX8_goes_1 (by decide) ?_
  refine zp_X8_60 C zo_47 dX8_goes_2 ?_
  refine zr_letM (fun M1 hM1 => ?_)
  have h := h M1 hM1
  refine zr_aload_n C 0 dX8_goes_5 rfl rfl ?_
  refine zr_iload_n C 1 dX8_goes_6 rfl rfl ?_
  refine zcI (zrunV C (rest := []) (c_X8_isArc X.2.1 G N _ _ _ h) zk_X8_isArc zl_X8_160 (zRc_7 zo_47) (by decide) (by decide) rfl (Nat.le_of_ble_eq_true rfl) rfl dX8_goes_7) (fun r2 M3 h => ?_)
  refine zr_if_eq C 29 dX8_goes_10 (by decide) (fun c => ?_) (fun c => ?_)
  · have h := h.1 c
    refine zr_iconst C (v := -1) dX8_goes_29 (by decide) ?_
    exact R _ _ _ _ h dX8_goes_30
  · have h := h.2 c
    refine zr_iload_n C 2 dX8_goes_13 rfl rfl ?_
    refine zcI (zrunS C (rest := []) (c_X8_isNode X.2.1 G N _ _ _ h) zk_X8_isNode zl_X8_163 (by decide) (by decide) rfl (Nat.le_of_ble_eq_true rfl) rfl dX8_goes_14) (fun r4 M5 h => ?_)
    refine zr_if_eq C 29 dX8_goes_17 (by decide) (fun c => ?_) (fun c => ?_)
    · have h := h.1 c
      refine zr_iconst C (v := -1) dX8_goes_29 (by decide) ?_
      exact R _ _ _ _ h dX8_goes_30
    · have h := h.2 c
      refine zr_iload_n C 3 dX8_goes_20 rfl rfl ?_
      refine zr_iconst C (v := 0) dX8_goes_21 (by decide) ?_
      refine zr_iconst C (v := 1) dX8_goes_22 (by decide) ?_
      refine zcI (zrunS C (rest := []) (c_X8_in X.2.1 G N _ _ _ _ _ h) zk_X8_in zl_X8_63 (by decide) (by decide) rfl (Nat.le_of_ble_eq_true rfl) rfl dX8_goes_23) (fun r6 M7 h => ?_)
      refine zr_if_ne C 31 dX8_goes_26 (by decide) (fun c => ?_) (fun c => ?_)
      · have h := h.1 c
        refine zr_aload_n C 0 dX8_goes_31 rfl rfl ?_
        refine zcU (zrunV C (rest := []) (c_X8_lays X.2.1 G N  _ _ h) zk_X8_lays zl_X8_167 (zRc_7 zo_47) (by decide) (by decide) rfl (Nat.le_of_ble_eq_true rfl) rfl dX8_goes_32) (fun M9 h => ?_)
        refine zr_iconst C (v := 0) dX8_goes_35 (by decide) ?_
        refine zr_istore C [1, 2, 3, 4, 0] dX8_goes_36 (by decide) rfl (lv' := [(0, zR G 47), (1, .int x1), (2, .int x2), (3, .int x3), (4, .int (0 : Int32))]) ?_
        refine zr_iconst C (v := 0) dX8_goes_38 (by decide) ?_
        refine zr_istore C [1, 2, 3, 4, 5, 0] dX8_goes_39 (by decide) rfl (lv' := [(0, zR G 47), (1, .int x1), (2, .int x2), (3, .int x3), (4, .int (0 : Int32)), (5, .int (0 : Int32))]) ?_
        refine zr_iconst C (v := 0) dX8_goes_41 (by decide) ?_
        refine zr_istore C [1, 2, 3, 4, 5, 6, 0] dX8_goes_42 (by decide) rfl (lv' := [(0, zR G 47), (1, .int x1), (2, .int x2), (3, .int x3), (4, .int (0 : Int32)), (5, .int (0 : Int32)), (6, .int (0 : Int32))]) ?_
        exact w_X8_goes_l44 C N Q R _ _ _ N _ _ _ _ h
      · have h := h.2 c
        refine zr_iconst C (v := -1) dX8_goes_29 (by decide) ?_
        exact R _ _ _ _ h dX8_goes_30
/-! X8_crossOf -/
set_option maxHeartbeats 4000000 in
set_option maxRecDepth 100000 in
theorem c_X8_crossOf (l : Launch) (G : zG) (N : Nat) (x1 : Int32) (x2 : Int32) (x3 : Int32) (M : zMem) (Q : Int32 → zMem → Prop) (h : f_X8_crossOf N x1 x2 x3 M Q) : zMI l G yX8_crossOf cX8_crossOf 5 .int 1 [zR G 47, .int x1, .int x2, .int x3] M Q := by
  refine zEI (by decide) (Nat.le_of_ble_eq_true rfl) (lv := [(0, zR G 47), (1, .int x1), (2, .int x2), (3, .int x3)]) rfl (fun X C R => ?_)
  have C : zC G X cX8_crossOf RX8 1 5 := C
  unfold f_X8_crossOf at h
  refine zr_bipush C (v := 8) dX8_crossOf_0 (by decide) ?_
  refine zr_iload_n C 1 dX8_crossOf_2 rfl rfl ?_
  refine zr_imul C dX8_crossOf_3 ?_
  refine zr_letI (fun v1 hv1 => ?_)
  have h := h v1 hv1
  refine zr_istore C [1, 3, 4, 0] dX8_crossOf_4 (by decide) rfl (lv' := [(0, zR G 47), (2, .int x2), (3, .int x3), (4, .int v1)]) ?_
  refine zr_aload_n C 0 dX8_crossOf_6 rfl rfl ?_
  refine zg_X8_7 C zo_47 dX8_crossOf_7 ?_
  refine zr_iload C 3 dX8_crossOf_10 rfl ?_
  refine zr_iconst C (v := 2) dX8_crossOf_12 (by decide) ?_
  refine zr_iload_n C 1 dX8_crossOf_13 rfl rfl ?_
  refine zr_imul C dX8_crossOf_14 ?_
  refine zr_iadd C dX8_crossOf_15 ?_
  refine zr_iald C za_48 h.1 dX8_crossOf_16 ?_
  have h := h.2
  refine zr_i2l C dX8_crossOf_17 ?_
  refine zr_aload_n C 0 dX8_crossOf_18 rfl rfl ?_
  refine zg_X8_7 C zo_47 dX8_crossOf_19 ?_
  refine zr_iload C 3 dX8_crossOf_22 rfl ?_
  refine zr_iconst C (v := 2) dX8_crossOf_24 (by decide) ?_
  refine zr_iload_n C 1 dX8_crossOf_25 rfl rfl ?_
  refine zr_imul C dX8_crossOf_26 ?_
  refine zr_iadd C dX8_crossOf_27 ?_
  refine zr_iconst C (v := 1) dX8_crossOf_28 (by decide) ?_
  refine zr_iadd C dX8_crossOf_29 ?_
  refine zr_iald C za_48 h.1 dX8_crossOf_30 ?_
  have h := h.2
  refine zr_i2l C dX8_crossOf_31 ?_
  refine zr_aload_n C 0 dX8_crossOf_32 rfl rfl ?_
  refine zg_X8_7 C zo_47 dX8_crossOf_33 ?_
  refine zr_iload C 3 dX8_crossOf_36 rfl ?_
  refine zr_iconst C (v := 2) dX8_crossOf_38 (by decide) ?_
  refine zr_iload_n C 2 dX8_crossOf_39 rfl rfl ?_
  refine zr_imul C dX8_crossOf_40 ?_
  refine zr_iadd C dX8_crossOf_41 ?_
  refine zr_iald C za_48 h.1 dX8_crossOf_42 ?_
  have h := h.2
  refine zr_i2l C dX8_crossOf_43 ?_
  refine zr_aload_n C 0 dX8_crossOf_44 rfl rfl ?_
  refine zg_X8_7 C zo_47 dX8_crossOf_45 ?_
  refine zr_iload C 3 dX8_crossOf_48 rfl ?_
  refine zr_iconst C (v := 2) dX8_crossOf_50 (by decide) ?_
  refine zr_iload_n C 2 dX8_crossOf_51 rfl rfl ?_
  refine zr_imul C dX8_crossOf_52 ?_
  refine zr_iadd C dX8_crossOf_53 ?_
  refine zr_iconst C (v := 1) dX8_crossOf_54 (by decide) ?_
  refine zr_iadd C dX8_crossOf_55 ?_
  refine zr_iald C za_48 h.1 dX8_crossOf_56 ?_
  have h := h.2
  refine zr_i2l C dX8_crossOf_57 ?_
  refine zcL (zrunS C (rest := []) (c_X8_cross X.2.1 G N _ _ _ _ _ _ h) zk_X8_cross zl_X8_121 (by decide) (by decide) rfl (Nat.le_of_ble_eq_true rfl) rfl dX8_crossOf_58) (fun r2 M3 h => ?_)
  refine zr_l2i C dX8_crossOf_61 ?_
  exact R _ _ _ _ h dX8_crossOf_62
/-! X8_areaOf -/
set_option maxHeartbeats 4000000 in
set_option maxRecDepth 100000 in
theorem c_X8_areaOf (l : Launch) (G : zG) (N : Nat) (x1 : Int32) (M : zMem) (Q : Int32 → zMem → Prop) (h : f_X8_areaOf N x1 M Q) : zMI l G yX8_areaOf cX8_areaOf 2 .int 2 [zR G 47, .int x1] M Q := by
  refine zEI (by decide) (Nat.le_of_ble_eq_true rfl) (lv := [(0, zR G 47), (1, .int x1)]) rfl (fun X C R => ?_)
  have C : zC G X cX8_areaOf RX8 2 2 := C
  unfold f_X8_areaOf at h
  refine zr_bipush C (v := 6) dX8_areaOf_0 (by decide) ?_
  refine zr_aload_n C 0 dX8_areaOf_2 rfl rfl ?_
  refine zr_iload_n C 1 dX8_areaOf_3 rfl rfl ?_
  refine zr_iconst C (v := 0) dX8_areaOf_4 (by decide) ?_
  refine zr_iconst C (v := 1) dX8_areaOf_5 (by decide) ?_
  refine zcI (zrunV C (rest := [.int (6 : Int32)]) (c_X8_crossOf X.2.1 G N _ _ _ _ _ h) zk_X8_crossOf zl_X8_188 (zRc_7 zo_47) (by decide) (by decide) rfl (Nat.le_of_ble_eq_true rfl) rfl dX8_areaOf_6) (fun r1 M2 h => ?_)
  refine zr_imul C dX8_areaOf_9 ?_
  refine zr_iconst C (v := 3) dX8_areaOf_10 (by decide) ?_
  refine zr_aload_n C 0 dX8_areaOf_11 rfl rfl ?_
  refine zr_iload_n C 1 dX8_areaOf_12 rfl rfl ?_
  refine zr_iconst C (v := 0) dX8_areaOf_13 (by decide) ?_
  refine zr_iconst C (v := 2) dX8_areaOf_14 (by decide) ?_
  refine zcI (zrunV C (rest := [.int (3 : Int32), .int ((6 : Int32) * r1)]) (c_X8_crossOf X.2.1 G N _ _ _ _ _ h) zk_X8_crossOf zl_X8_188 (zRc_7 zo_47) (by decide) (by decide) rfl (Nat.le_of_ble_eq_true rfl) rfl dX8_areaOf_15) (fun r3 M4 h => ?_)
  refine zr_imul C dX8_areaOf_18 ?_
  refine zr_iadd C dX8_areaOf_19 ?_
  refine zr_aload_n C 0 dX8_areaOf_20 rfl rfl ?_
  refine zr_iload_n C 1 dX8_areaOf_21 rfl rfl ?_
  refine zr_iconst C (v := 0) dX8_areaOf_22 (by decide) ?_
  refine zr_iconst C (v := 3) dX8_areaOf_23 (by decide) ?_
  refine zcI (zrunV C (rest := [.int (((6 : Int32) * r1) + ((3 : Int32) * r3))]) (c_X8_crossOf X.2.1 G N _ _ _ _ _ h) zk_X8_crossOf zl_X8_188 (zRc_7 zo_47) (by decide) (by decide) rfl (Nat.le_of_ble_eq_true rfl) rfl dX8_areaOf_24) (fun r5 M6 h => ?_)
  refine zr_iadd C dX8_areaOf_27 ?_
  refine zr_iconst C (v := 3) dX8_areaOf_28 (by decide) ?_
  refine zr_aload_n C 0 dX8_areaOf_29 rfl rfl ?_
  refine zr_iload_n C 1 dX8_areaOf_30 rfl rfl ?_
  refine zr_iconst C (v := 1) dX8_areaOf_31 (by decide) ?_
  refine zr_iconst C (v := 2) dX8_areaOf_32 (by decide) ?_
  refine zcI (zrunV C (rest := [.int (3 : Int32), .int ((((6 : Int32) * r1) + ((3 : Int32) * r3)) + r5)]) (c_X8_crossOf X.2.1 G N _ _ _ _ _ h) zk_X8_crossOf zl_X8_188 (zRc_7 zo_47) (by decide) (by decide) rfl (Nat.le_of_ble_eq_true rfl) rfl dX8_areaOf_33) (fun r7 M8 h => ?_)
  refine zr_imul C dX8_areaOf_36 ?_
  refine zr_iadd C dX8_areaOf_37 ?_
  refine zr_iconst C (v := 3) dX8_areaOf_38 (by decide) ?_
  refine zr_aload_n C 0 dX8_areaOf_39 rfl rfl ?_
  refine zr_iload_n C 1 dX8_areaOf_40 rfl rfl ?_
  refine zr_iconst C (v := 1) dX8_areaOf_41 (by decide) ?_
  refine zr_iconst C (v := 3) dX8_areaOf_42 (by decide) ?_
  refine zcI (zrunV C (rest := [.int (3 : Int32), .int (((((6 : Int32) * r1) + ((3 : Int32) * r3)) + r5) + ((3 : Int32) * r7))]) (c_X8_crossOf X.2.1 G N _ _ _ _ _ h) zk_X8_crossOf zl_X8_188 (zRc_7 zo_47) (by decide) (by decide) rfl (Nat.le_of_ble_eq_true rfl) rfl dX8_areaOf_43) (fun r9 M10 h => ?_)
  refine zr_imul C dX8_areaOf_46 ?_
  refine zr_iadd C dX8_areaOf_47 ?_
  refine zr_bipush C (v := 6) dX8_areaOf_48 (by decide) ?_
  refine zr_aload_n C 0 dX8_areaOf_50 rfl rfl ?_
  refine zr_iload_n C 1 dX8_areaOf_51 rfl rfl ?_
  refine zr_iconst C (v := 2) dX8_areaOf_52 (by decide) ?_
  refine zr_iconst C (v := 3) dX8_areaOf_53 (by decide) ?_
  refine zcI (zrunV C (rest := [.int (6 : Int32), .int ((((((6 : Int32) * r1) + ((3 : Int32) * r3)) + r5) + ((3 : Int32) * r7)) + ((3 : Int32) * r9))]) (c_X8_crossOf X.2.1 G N _ _ _ _ _ h) zk_X8_crossOf zl_X8_188 (zRc_7 zo_47) (by decide) (by decide) rfl (Nat.le_of_ble_eq_true rfl) rfl dX8_areaOf_54) (fun r11 M12 h => ?_)
  refine zr_imul C dX8_areaOf_57 ?_
  refine zr_iadd C dX8_areaOf_58 ?_
  exact R _ _ _ _ h dX8_areaOf_59
/-! X8_area -/
set_option maxHeartbeats 4000000 in
set_option maxRecDepth 100000 in
theorem w_X8_area_b90 {G : zG} {X : zX} (C : zC G X cX8_area RX8 3 7) (N : Nat) (Q : Int32 → zMem → Prop) (R : zRI G X cX8_area Q) (x2 : Int32) (x3 : Int32) (k90 : Int32 → Int32 → zMem → Prop) (hk90 : ∀ (z4 : Int32) (z5 : Int32) (M : zMem), k90 z4 z5 M → zV G X M [(2, .int x2), (3, .int x3), (4, .int z4), (5, .int z5)] [] 90) (x4 : Int32) (x5 : Int32) (M : zMem) (h : f_X8_area_b90 N k90 x2 x3 x4 x5 M Q) : zV G X M [(2, .int x2), (3, .int x3), (4, .int x4), (5, .int x5)] [] 90 := by
  unfold f_X8_area_b90 at h
  refine zr_iload C 3 dX8_area_90 rfl ?_
  refine zr_if_eq C 113 dX8_area_92 (by decide) (fun c => ?_) (fun c => ?_)
  · have h := h.1 c
    refine zr_iload_n C 0 dX8_area_113 rfl rfl ?_
    refine zr_if_ne C 124 dX8_area_114 (by decide) (fun c => ?_) (fun c => ?_)
    · have h := h.1 c
      refine zr_bipush C (v := 20) dX8_area_124 (by decide) ?_
      refine zr_iload C 2 dX8_area_126 rfl ?_
      refine zr_idiv C dX8_area_128 h.1 ?_
      have h := h.2
      exact R _ _ _ _ h dX8_area_129
    · have h := h.2 c
      refine zr_iload_n C 1 dX8_area_117 rfl rfl ?_
      refine zr_iload C 2 dX8_area_118 rfl ?_
      refine zr_idiv C dX8_area_120 h.1 ?_
      have h := h.2
      refine zr_goto C 129 dX8_area_121 (by decide) ?_
      exact R _ _ _ _ h dX8_area_129
  · have h := h.2 c
    refine zr_iload C 2 dX8_area_95 rfl ?_
    refine zr_iload C 3 dX8_area_97 rfl ?_
    refine zr_irem C dX8_area_99 h.1 ?_
    have h := h.2
    refine zr_letI (fun v4 hv4 => ?_)
    have h := h v4 hv4
    refine zr_istore C [1, 2, 4, 0] dX8_area_100 (by decide) rfl (lv' := [(2, .int x2), (3, .int x3), (5, .int x5), (6, .int v4)]) ?_
    refine zr_iload C 2 dX8_area_102 rfl ?_
    refine zr_istore C [1, 2, 0, 4] dX8_area_104 (by decide) rfl (lv' := [(2, .int x2), (3, .int x3), (4, .int x5), (6, .int v4)]) ?_
    refine zr_iload C 3 dX8_area_106 rfl ?_
    refine zr_istore C [1, 2, 3, 0] dX8_area_108 (by decide) rfl (lv' := [(2, .int x2), (3, .int x3), (4, .int x5), (5, .int v4)]) ?_
    refine zr_goto C 90 dX8_area_110 (by decide) ?_
    exact hk90 _ _ _ h
theorem w_X8_area_l90 {G : zG} {X : zX} (C : zC G X cX8_area RX8 3 7) (N : Nat) (Q : Int32 → zMem → Prop) (R : zRI G X cX8_area Q) (x2 : Int32) (x3 : Int32) : ∀ (n : Nat) (x4 : Int32) (x5 : Int32) (M : zMem), f_X8_area_l90 N x2 x3 Q n x4 x5 M → zV G X M [(2, .int x2), (3, .int x3), (4, .int x4), (5, .int x5)] [] 90 := by
  intro n
  induction n with
  | zero => intro x4 x5 M h; exact h.elim
  | succ n ih =>
    intro x4 x5 M h
    exact w_X8_area_b90 C N Q R x2 x3  _ ih x4 x5 M h
set_option maxHeartbeats 4000000 in
set_option maxRecDepth 100000 in
theorem w_X8_area_b88 {G : zG} {X : zX} (C : zC G X cX8_area RX8 3 7) (N : Nat) (Q : Int32 → zMem → Prop) (R : zRI G X cX8_area Q) (x2 : Int32) (x3 : Int32) (x4 : Int32) (s0 : Int32) (M : zMem) (h : f_X8_area_b88 N x2 x3 x4 s0 M Q) : zV G X M [(2, .int x2), (3, .int x3), (4, .int x4)] [.int s0] 88 := by
  unfold f_X8_area_b88 at h
  refine zr_istore C [1, 2, 3, 0] dX8_area_88 (by decide) rfl (lv' := [(2, .int x2), (3, .int x3), (4, .int x4), (5, .int s0)]) ?_
  exact w_X8_area_l90 C N Q R _ _ N _ _ _ h
set_option maxHeartbeats 4000000 in
set_option maxRecDepth 100000 in
theorem w_X8_area_b66 {G : zG} {X : zX} (C : zC G X cX8_area RX8 3 7) (N : Nat) (Q : Int32 → zMem → Prop) (R : zRI G X cX8_area Q) (x1 : Int32) (x2 : Int32) (x4 : Int32) (s0 : Int32) (s1 : Int32) (k35 : Int32 → Int32 → zMem → Prop) (hk35 : ∀ (z3 : Int32) (z4 : Int32) (M : zMem), k35 z3 z4 M → zV G X M [(0, zR G 47), (1, .int x1), (2, .int x2), (3, .int z3), (4, .int z4)] [] 35) (M : zMem) (h : f_X8_area_b66 N k35 x1 x2 x4 s0 s1 M Q) : zV G X M [(0, zR G 47), (1, .int x1), (2, .int x2), (4, .int x4)] [.int s1, .int s0] 66 := by
  unfold f_X8_area_b66 at h
  refine zr_iadd C dX8_area_66 ?_
  refine zr_letI (fun v7 hv7 => ?_)
  have h := h v7 hv7
  refine zr_istore_n C [1, 2, 3, 0, 4] dX8_area_67 rfl (by decide) rfl (lv' := [(0, zR G 47), (1, .int x1), (2, .int x2), (3, .int v7), (4, .int x4)]) ?_
  obtain ⟨v8, hv8⟩ : ∃ y : Int32, y = x4 + (1 : Int32) := ⟨_, rfl⟩
  have h := h v8 hv8
  refine zr_iinc C 4 [1, 2, 3, 4, 0] dX8_area_68 rfl (by rw [hv8]; rfl) (by decide) rfl (lv' := [(0, zR G 47), (1, .int x1), (2, .int x2), (3, .int v7), (4, .int v8)]) ?_
  refine zr_goto C 35 dX8_area_71 (by decide) ?_
  exact hk35 _ _ _ h
set_option maxHeartbeats 4000000 in
set_option maxRecDepth 100000 in
theorem w_X8_area_b56 {G : zG} {X : zX} (C : zC G X cX8_area RX8 3 7) (N : Nat) (Q : Int32 → zMem → Prop) (R : zRI G X cX8_area Q) (x1 : Int32) (x2 : Int32) (x4 : Int32) (s0 : Int32) (k35 : Int32 → Int32 → zMem → Prop) (hk35 : ∀ (z3 : Int32) (z4 : Int32) (M : zMem), k35 z3 z4 M → zV G X M [(0, zR G 47), (1, .int x1), (2, .int x2), (3, .int z3), (4, .int z4)] [] 35) (M : zMem) (h : f_X8_area_b56 N k35 x1 x2 x4 s0 M Q) : zV G X M [(0, zR G 47), (1, .int x1), (2, .int x2), (4, .int x4)] [.int s0] 56 := by
  unfold f_X8_area_b56 at h
  refine zr_aload_n C 0 dX8_area_56 rfl rfl ?_
  refine zr_iload C 3 dX8_area_57 rfl ?_
  refine zcI (zrunV C (rest := [.int s0]) (c_X8_areaOf X.2.1 G N _ _ _ h) zk_X8_areaOf zl_X8_192 (zRc_7 zo_47) (by decide) (by decide) rfl (Nat.le_of_ble_eq_true rfl) rfl dX8_area_59) (fun r5 M6 h => ?_)
  refine zr_goto C 66 dX8_area_62 (by decide) ?_
  exact w_X8_area_b66 C N Q R _ _ _ _ _ _ hk35 _ h
set_option maxHeartbeats 4000000 in
set_option maxRecDepth 100000 in
theorem w_X8_area_b35 {G : zG} {X : zX} (C : zC G X cX8_area RX8 3 7) (N : Nat) (Q : Int32 → zMem → Prop) (R : zRI G X cX8_area Q) (x1 : Int32) (x2 : Int32) (k35 : Int32 → Int32 → zMem → Prop) (hk35 : ∀ (z3 : Int32) (z4 : Int32) (M : zMem), k35 z3 z4 M → zV G X M [(0, zR G 47), (1, .int x1), (2, .int x2), (3, .int z3), (4, .int z4)] [] 35) (x3 : Int32) (x4 : Int32) (M : zMem) (h : f_X8_area_b35 N k35 x1 x2 x3 x4 M Q) : zV G X M [(0, zR G 47), (1, .int x1), (2, .int x2), (3, .int x3), (4, .int x4)] [] 35 := by
  unfold f_X8_area_b35 at h
  refine zr_iload C 4 dX8_area_35 rfl ?_
  refine zr_aload_n C 0 dX8_area_37 rfl rfl ?_
  refine zg_X8_56 C zo_47 dX8_area_38 ?_
  refine zr_icmp_ge C 74 dX8_area_41 (by decide) (fun c => ?_) (fun c => ?_)
  · have h := h.1 c
    refine zr_bipush C (v := 20) dX8_area_74 (by decide) ?_
    refine zr_istore C [3, 4, 0] dX8_area_76 (by decide) rfl (lv' := [(2, .int x2), (3, .int x3), (4, .int (20 : Int32))]) ?_
    refine zr_iload_n C 1 dX8_area_78 rfl rfl ?_
    refine zr_if_ge C 87 dX8_area_79 (by decide) (fun c => ?_) (fun c => ?_)
    · have h := h.1 c
      refine zr_iload_n C 1 dX8_area_87 rfl rfl ?_
      exact w_X8_area_b88 C N Q R _ _ _ _ _ h
    · have h := h.2 c
      refine zr_iload_n C 1 dX8_area_82 rfl rfl ?_
      refine zr_ineg C dX8_area_83 ?_
      refine zr_goto C 88 dX8_area_84 (by decide) ?_
      exact w_X8_area_b88 C N Q R _ _ _ _ _ h
  · have h := h.2 c
    refine zr_iload_n C 3 dX8_area_44 rfl rfl ?_
    refine zr_iload_n C 1 dX8_area_45 rfl rfl ?_
    refine zr_iconst C (v := -1) dX8_area_46 (by decide) ?_
    refine zr_icmp_eq C 56 dX8_area_47 (by decide) (fun c => ?_) (fun c => ?_)
    · have h := h.1 c
      refine zr_sub [0, 1, 2, 4] rfl (lv' := [(0, zR G 47), (1, .int x1), (2, .int x2), (4, .int x4)]) ?_
      exact w_X8_area_b56 C N Q R _ _ _ _ _ hk35 _ h
    · have h := h.2 c
      refine zr_iload_n C 1 dX8_area_50 rfl rfl ?_
      refine zr_iload C 4 dX8_area_51 rfl ?_
      refine zr_icmp_ne C 65 dX8_area_53 (by decide) (fun c => ?_) (fun c => ?_)
      · have h := h.1 c
        refine zr_iconst C (v := 0) dX8_area_65 (by decide) ?_
        refine zr_sub [0, 1, 2, 4] rfl (lv' := [(0, zR G 47), (1, .int x1), (2, .int x2), (4, .int x4)]) ?_
        exact w_X8_area_b66 C N Q R _ _ _ _ _ _ hk35 _ h
      · have h := h.2 c
        refine zr_sub [0, 1, 2, 4] rfl (lv' := [(0, zR G 47), (1, .int x1), (2, .int x2), (4, .int x4)]) ?_
        exact w_X8_area_b56 C N Q R _ _ _ _ _ hk35 _ h
theorem w_X8_area_l35 {G : zG} {X : zX} (C : zC G X cX8_area RX8 3 7) (N : Nat) (Q : Int32 → zMem → Prop) (R : zRI G X cX8_area Q) (x1 : Int32) (x2 : Int32) : ∀ (n : Nat) (x3 : Int32) (x4 : Int32) (M : zMem), f_X8_area_l35 N x1 x2 Q n x3 x4 M → zV G X M [(0, zR G 47), (1, .int x1), (2, .int x2), (3, .int x3), (4, .int x4)] [] 35 := by
  intro n
  induction n with
  | zero => intro x3 x4 M h; exact h.elim
  | succ n ih =>
    intro x3 x4 M h
    exact w_X8_area_b35 C N Q R x1 x2  _ ih x3 x4 M h
set_option maxHeartbeats 4000000 in
set_option maxRecDepth 100000 in
theorem w_X8_area_b18 {G : zG} {X : zX} (C : zC G X cX8_area RX8 3 7) (N : Nat) (Q : Int32 → zMem → Prop) (R : zRI G X cX8_area Q) (x1 : Int32) (x2 : Int32) (M : zMem) (h : f_X8_area_b18 N x1 x2 M Q) : zV G X M [(0, zR G 47), (1, .int x1), (2, .int x2)] [] 18 := by
  unfold f_X8_area_b18 at h
  refine zr_iload_n C 2 dX8_area_18 rfl rfl ?_
  refine zr_iconst C (v := 0) dX8_area_19 (by decide) ?_
  refine zr_iconst C (v := 1) dX8_area_20 (by decide) ?_
  refine zcI (zrunS C (rest := []) (c_X8_in X.2.1 G N _ _ _ _ _ h) zk_X8_in zl_X8_63 (by decide) (by decide) rfl (Nat.le_of_ble_eq_true rfl) rfl dX8_area_21) (fun r2 M3 h => ?_)
  refine zr_if_ne C 30 dX8_area_24 (by decide) (fun c => ?_) (fun c => ?_)
  · have h := h.1 c
    refine zr_iconst C (v := 0) dX8_area_30 (by decide) ?_
    refine zr_istore_n C [1, 2, 3, 0] dX8_area_31 rfl (by decide) rfl (lv' := [(0, zR G 47), (1, .int x1), (2, .int x2), (3, .int (0 : Int32))]) ?_
    refine zr_iconst C (v := 0) dX8_area_32 (by decide) ?_
    refine zr_istore C [1, 2, 3, 4, 0] dX8_area_33 (by decide) rfl (lv' := [(0, zR G 47), (1, .int x1), (2, .int x2), (3, .int (0 : Int32)), (4, .int (0 : Int32))]) ?_
    exact w_X8_area_l35 C N Q R _ _ N _ _ _ h
  · have h := h.2 c
    refine zr_ldc C zkc_X8_166 dX8_area_27 ?_
    exact R _ _ _ _ h dX8_area_29
set_option maxHeartbeats 4000000 in
set_option maxRecDepth 100000 in
theorem c_X8_area (l : Launch) (G : zG) (N : Nat) (x1 : Int32) (x2 : Int32) (M : zMem) (Q : Int32 → zMem → Prop) (h : f_X8_area N x1 x2 M Q) : zMI l G yX8_area cX8_area 7 .int 3 [zR G 47, .int x1, .int x2] M Q := by
  refine zEI (by decide) (Nat.le_of_ble_eq_true rfl) (lv := [(0, zR G 47), (1, .int x1), (2, .int x2)]) rfl (fun X C R => ?_)
  have C : zC G X cX8_area RX8 3 7 := C
  unfold f_X8_area at h
  refine zr_aload_n C 0 dX8_area_0 rfl rfl ?_
  refine zr_iconst C (v := 0) dX8_area_1 (by decide) ?_
  refine zp_X8_60 C zo_47 dX8_area_2 ?_
  refine zr_letM (fun M1 hM1 => ?_)
  have h := h M1 hM1
  refine zr_iload_n C 1 dX8_area_5 rfl rfl ?_
  refine zr_iconst C (v := -1) dX8_area_6 (by decide) ?_
  refine zr_icmp_eq C 18 dX8_area_7 (by decide) (fun c => ?_) (fun c => ?_)
  · have h := h.1 c
    exact w_X8_area_b18 C N Q R _ _ _ h
  · have h := h.2 c
    refine zr_aload_n C 0 dX8_area_10 rfl rfl ?_
    refine zr_iload_n C 1 dX8_area_11 rfl rfl ?_
    refine zcI (zrunV C (rest := []) (c_X8_isArc X.2.1 G N _ _ _ h) zk_X8_isArc zl_X8_160 (zRc_7 zo_47) (by decide) (by decide) rfl (Nat.le_of_ble_eq_true rfl) rfl dX8_area_12) (fun r9 M10 h => ?_)
    refine zr_if_eq C 27 dX8_area_15 (by decide) (fun c => ?_) (fun c => ?_)
    · have h := h.1 c
      refine zr_ldc C zkc_X8_166 dX8_area_27 ?_
      exact R _ _ _ _ h dX8_area_29
    · have h := h.2 c
      exact w_X8_area_b18 C N Q R _ _ _ h
/-! X8_waits -/
set_option maxHeartbeats 4000000 in
set_option maxRecDepth 100000 in
theorem c_X8_waits (l : Launch) (G : zG) (N : Nat) (x1 : Int32) (x2 : Int32) (M : zMem) (Q : zMem → Prop) (h : f_X8_waits N x1 x2 M Q) : zMU l G yX8_waits cX8_waits 3 0 [zR G 47, .int x1, .int x2] M Q := by
  refine zEU (by decide) (Nat.le_of_ble_eq_true rfl) (lv := [(0, zR G 47), (1, .int x1), (2, .int x2)]) rfl (fun X C R => ?_)
  have C : zC G X cX8_waits RX8 0 3 := C
  unfold f_X8_waits at h
  refine zr_aload_n C 0 dX8_waits_0 rfl rfl ?_
  refine zg_X8_50 C zo_47 dX8_waits_1 ?_
  refine zr_aload_n C 0 dX8_waits_4 rfl rfl ?_
  refine zg_X8_195 C zo_47 dX8_waits_5 ?_
  refine zr_iload_n C 1 dX8_waits_8 rfl rfl ?_
  refine zr_iast C za_61 h.1 dX8_waits_9 ?_
  have h := h.2
  refine zr_letM (fun M1 hM1 => ?_)
  have h := h M1 hM1
  refine zr_aload_n C 0 dX8_waits_10 rfl rfl ?_
  refine zg_X8_53 C zo_47 dX8_waits_11 ?_
  refine zr_aload_n C 0 dX8_waits_14 rfl rfl ?_
  refine zg_X8_195 C zo_47 dX8_waits_15 ?_
  refine zr_iload_n C 2 dX8_waits_18 rfl rfl ?_
  refine zr_iast C za_62 h.1 dX8_waits_19 ?_
  have h := h.2
  refine zr_letM (fun M2 hM2 => ?_)
  have h := h M2 hM2
  refine zr_aload_n C 0 dX8_waits_20 rfl rfl ?_
  refine zr_dup C rfl dX8_waits_21 ?_
  refine zg_X8_195 C zo_47 dX8_waits_22 ?_
  refine zr_iconst C (v := 1) dX8_waits_25 (by decide) ?_
  refine zr_iadd C dX8_waits_26 ?_
  refine zp_X8_195 C zo_47 dX8_waits_27 ?_
  refine zr_letM (fun M3 hM3 => ?_)
  have h := h M3 hM3
  exact R _ _ _ h dX8_waits_30
/-! X8_isTooMany -/
set_option maxHeartbeats 4000000 in
set_option maxRecDepth 100000 in
theorem w_X8_isTooMany_b92 {G : zG} {X : zX} (C : zC G X cX8_isTooMany RX8 6 6) (N : Nat) (Q : Int32 → zMem → Prop) (R : zRZ G X cX8_isTooMany Q) (x2 : Int32) (x4 : Int32) (x5 : Int32) (M : zMem) (h : f_X8_isTooMany_b92 N x2 x4 x5 M Q) : zV G X M [(0, zR G 47), (2, .int x2), (4, .int x4), (5, .int x5)] [] 92 := by
  unfold f_X8_isTooMany_b92 at h
  refine zr_aload_n C 0 dX8_isTooMany_92 rfl rfl ?_
  refine zg_X8_202 C zo_47 dX8_isTooMany_93 ?_
  refine zr_bipush C (v := 100) dX8_isTooMany_96 (by decide) ?_
  refine zr_icmp_ne C 103 dX8_isTooMany_98 (by decide) (fun c => ?_) (fun c => ?_)
  · have h := h.1 c
    refine zr_aload_n C 0 dX8_isTooMany_103 rfl rfl ?_
    refine zg_X8_38 C zo_47 dX8_isTooMany_104 ?_
    refine zr_aload_n C 0 dX8_isTooMany_107 rfl rfl ?_
    refine zg_X8_202 C zo_47 dX8_isTooMany_108 ?_
    refine zr_iload_n C 1 dX8_isTooMany_111 rfl rfl ?_
    refine zr_iast C za_57 h.1 dX8_isTooMany_112 ?_
    have h := h.2
    refine zr_letM (fun M5 hM5 => ?_)
    have h := h M5 hM5
    refine zr_aload_n C 0 dX8_isTooMany_113 rfl rfl ?_
    refine zg_X8_41 C zo_47 dX8_isTooMany_114 ?_
    refine zr_aload_n C 0 dX8_isTooMany_117 rfl rfl ?_
    refine zg_X8_202 C zo_47 dX8_isTooMany_118 ?_
    refine zr_iload C 2 dX8_isTooMany_121 rfl ?_
    refine zr_iast C za_58 h.1 dX8_isTooMany_123 ?_
    have h := h.2
    refine zr_letM (fun M6 hM6 => ?_)
    have h := h M6 hM6
    refine zr_aload_n C 0 dX8_isTooMany_124 rfl rfl ?_
    refine zg_X8_44 C zo_47 dX8_isTooMany_125 ?_
    refine zr_aload_n C 0 dX8_isTooMany_128 rfl rfl ?_
    refine zg_X8_202 C zo_47 dX8_isTooMany_129 ?_
    refine zr_iload C 3 dX8_isTooMany_132 rfl ?_
    refine zr_zast C za_59 h.1 dX8_isTooMany_134 ?_
    have h := h.2
    refine zr_letM (fun M7 hM7 => ?_)
    have h := h M7 hM7
    refine zr_aload_n C 0 dX8_isTooMany_135 rfl rfl ?_
    refine zg_X8_47 C zo_47 dX8_isTooMany_136 ?_
    refine zr_aload_n C 0 dX8_isTooMany_139 rfl rfl ?_
    refine zg_X8_202 C zo_47 dX8_isTooMany_140 ?_
    refine zr_aload_n C 0 dX8_isTooMany_143 rfl rfl ?_
    refine zg_X8_202 C zo_47 dX8_isTooMany_144 ?_
    refine zr_iast C za_60 h.1 dX8_isTooMany_147 ?_
    have h := h.2
    refine zr_letM (fun M8 hM8 => ?_)
    have h := h M8 hM8
    refine zr_aload_n C 0 dX8_isTooMany_148 rfl rfl ?_
    refine zr_dup C rfl dX8_isTooMany_149 ?_
    refine zg_X8_202 C zo_47 dX8_isTooMany_150 ?_
    refine zr_iconst C (v := 1) dX8_isTooMany_153 (by decide) ?_
    refine zr_iadd C dX8_isTooMany_154 ?_
    refine zp_X8_202 C zo_47 dX8_isTooMany_155 ?_
    refine zr_letM (fun M9 hM9 => ?_)
    have h := h M9 hM9
    refine zr_iconst C (v := 0) dX8_isTooMany_158 (by decide) ?_
    exact R _ _ _ _ zb_0.1 h dX8_isTooMany_159
  · have h := h.2 c
    refine zr_iconst C (v := 1) dX8_isTooMany_101 (by decide) ?_
    exact R _ _ _ _ zb_1.1 h dX8_isTooMany_102
set_option maxHeartbeats 4000000 in
set_option maxRecDepth 100000 in
theorem c_X8_isTooMany (l : Launch) (G : zG) (N : Nat) (x1 : Int32) (x2 : Int32) (x3 : Int32) (x4 : Int32) (M : zMem) (Q : Int32 → zMem → Prop) (h : f_X8_isTooMany N x1 x2 x3 x4 M Q) : zMI l G yX8_isTooMany cX8_isTooMany 6 .boolean 6 [zR G 47, .int x1, .int x2, .int x3, .int x4] M Q := by
  refine zEZ (by decide) (Nat.le_of_ble_eq_true rfl) (lv := [(0, zR G 47), (1, .int x1), (2, .int x2), (3, .int x3), (4, .int x4)]) rfl (fun X C R => ?_)
  have C : zC G X cX8_isTooMany RX8 6 6 := C
  unfold f_X8_isTooMany at h
  refine zr_aload_n C 0 dX8_isTooMany_0 rfl rfl ?_
  refine zr_iload_n C 1 dX8_isTooMany_1 rfl rfl ?_
  refine zr_iload_n C 2 dX8_isTooMany_2 rfl rfl ?_
  refine zr_iload_n C 3 dX8_isTooMany_3 rfl rfl ?_
  refine zr_iload C 4 dX8_isTooMany_4 rfl ?_
  refine zcI (zrunV C (rest := []) (c_X8_apartOf X.2.1 G N _ _ _ _ _ _ h) zk_X8_apartOf zl_X8_174 (zRc_7 zo_47) (by decide) (by decide) rfl (Nat.le_of_ble_eq_true rfl) rfl dX8_isTooMany_6) (fun r1 M2 h => ?_)
  refine zr_if_eq C 14 dX8_isTooMany_9 (by decide) (fun c => ?_) (fun c => ?_)
  · have h := h.1 c
    refine zr_aload_n C 0 dX8_isTooMany_14 rfl rfl ?_
    refine zr_iload_n C 1 dX8_isTooMany_15 rfl rfl ?_
    refine zr_iload_n C 2 dX8_isTooMany_16 rfl rfl ?_
    refine zr_iload_n C 3 dX8_isTooMany_17 rfl rfl ?_
    refine zr_iload C 4 dX8_isTooMany_18 rfl ?_
    refine zcI (zrunV C (rest := []) (c_X8_areCrossed X.2.1 G N _ _ _ _ _ _ h) zk_X8_areCrossed zl_X8_177 (zRc_7 zo_47) (by decide) (by decide) rfl (Nat.le_of_ble_eq_true rfl) rfl dX8_isTooMany_20) (fun r3 M4 h => ?_)
    refine zr_istore C [1, 3, 5, 0] dX8_isTooMany_23 (by decide) rfl (lv' := [(0, zR G 47), (2, .int x2), (4, .int x4), (5, .int r3)]) ?_
    refine zr_iload C 3 dX8_isTooMany_25 rfl ?_
    refine zr_if_ne C 92 dX8_isTooMany_27 (by decide) (fun c => ?_) (fun c => ?_)
    · have h := h.1 c
      exact w_X8_isTooMany_b92 C N Q R _ _ _ _ h
    · have h := h.2 c
      refine zr_iload_n C 1 dX8_isTooMany_30 rfl rfl ?_
      refine zcI (zrunS C (rest := []) (c_X8_depth X.2.1 G N _ _ _ h) zk_X8_depth zl_X8_103 (by decide) (by decide) rfl (Nat.le_of_ble_eq_true rfl) rfl dX8_isTooMany_31) (fun r10 M11 h => ?_)
      refine zr_iconst C (v := 5) dX8_isTooMany_34 (by decide) ?_
      refine zr_icmp_ge C 92 dX8_isTooMany_35 (by decide) (fun c => ?_) (fun c => ?_)
      · have h := h.1 c
        exact w_X8_isTooMany_b92 C N Q R _ _ _ _ h
      · have h := h.2 c
        refine zr_aload_n C 0 dX8_isTooMany_38 rfl rfl ?_
        refine zr_iconst C (v := 2) dX8_isTooMany_39 (by decide) ?_
        refine zr_iload_n C 1 dX8_isTooMany_40 rfl rfl ?_
        refine zr_imul C dX8_isTooMany_41 ?_
        refine zr_iconst C (v := 1) dX8_isTooMany_42 (by decide) ?_
        refine zr_iadd C dX8_isTooMany_43 ?_
        refine zr_iconst C (v := 2) dX8_isTooMany_44 (by decide) ?_
        refine zr_iload C 2 dX8_isTooMany_45 rfl ?_
        refine zr_imul C dX8_isTooMany_47 ?_
        refine zr_iconst C (v := 1) dX8_isTooMany_48 (by decide) ?_
        refine zr_iadd C dX8_isTooMany_49 ?_
        refine zcU (zrunV C (rest := []) (c_X8_waits X.2.1 G N _ _ _ _ h) zk_X8_waits zl_X8_198 (zRc_7 zo_47) (by decide) (by decide) rfl (Nat.le_of_ble_eq_true rfl) rfl dX8_isTooMany_50) (fun M13 h => ?_)
        refine zr_aload_n C 0 dX8_isTooMany_53 rfl rfl ?_
        refine zr_iconst C (v := 2) dX8_isTooMany_54 (by decide) ?_
        refine zr_iload_n C 1 dX8_isTooMany_55 rfl rfl ?_
        refine zr_imul C dX8_isTooMany_56 ?_
        refine zr_iconst C (v := 1) dX8_isTooMany_57 (by decide) ?_
        refine zr_iadd C dX8_isTooMany_58 ?_
        refine zr_iconst C (v := 2) dX8_isTooMany_59 (by decide) ?_
        refine zr_iload C 2 dX8_isTooMany_60 rfl ?_
        refine zr_imul C dX8_isTooMany_62 ?_
        refine zcU (zrunV C (rest := []) (c_X8_waits X.2.1 G N _ _ _ _ h) zk_X8_waits zl_X8_198 (zRc_7 zo_47) (by decide) (by decide) rfl (Nat.le_of_ble_eq_true rfl) rfl dX8_isTooMany_63) (fun M15 h => ?_)
        refine zr_aload_n C 0 dX8_isTooMany_66 rfl rfl ?_
        refine zr_iconst C (v := 2) dX8_isTooMany_67 (by decide) ?_
        refine zr_iload_n C 1 dX8_isTooMany_68 rfl rfl ?_
        refine zr_imul C dX8_isTooMany_69 ?_
        refine zr_iconst C (v := 2) dX8_isTooMany_70 (by decide) ?_
        refine zr_iload C 2 dX8_isTooMany_71 rfl ?_
        refine zr_imul C dX8_isTooMany_73 ?_
        refine zr_iconst C (v := 1) dX8_isTooMany_74 (by decide) ?_
        refine zr_iadd C dX8_isTooMany_75 ?_
        refine zcU (zrunV C (rest := []) (c_X8_waits X.2.1 G N _ _ _ _ h) zk_X8_waits zl_X8_198 (zRc_7 zo_47) (by decide) (by decide) rfl (Nat.le_of_ble_eq_true rfl) rfl dX8_isTooMany_76) (fun M17 h => ?_)
        refine zr_aload_n C 0 dX8_isTooMany_79 rfl rfl ?_
        refine zr_iconst C (v := 2) dX8_isTooMany_80 (by decide) ?_
        refine zr_iload_n C 1 dX8_isTooMany_81 rfl rfl ?_
        refine zr_imul C dX8_isTooMany_82 ?_
        refine zr_iconst C (v := 2) dX8_isTooMany_83 (by decide) ?_
        refine zr_iload C 2 dX8_isTooMany_84 rfl ?_
        refine zr_imul C dX8_isTooMany_86 ?_
        refine zcU (zrunV C (rest := []) (c_X8_waits X.2.1 G N _ _ _ _ h) zk_X8_waits zl_X8_198 (zRc_7 zo_47) (by decide) (by decide) rfl (Nat.le_of_ble_eq_true rfl) rfl dX8_isTooMany_87) (fun M19 h => ?_)
        refine zr_iconst C (v := 0) dX8_isTooMany_90 (by decide) ?_
        exact R _ _ _ _ zb_0.1 h dX8_isTooMany_91
  · have h := h.2 c
    refine zr_iconst C (v := 0) dX8_isTooMany_12 (by decide) ?_
    exact R _ _ _ _ zb_0.1 h dX8_isTooMany_13
/-! X8_areNear -/
set_option maxHeartbeats 4000000 in
set_option maxRecDepth 100000 in
theorem c_X8_areNear (l : Launch) (G : zG) (N : Nat) (x1 : Int32) (x2 : Int32) (M : zMem) (Q : Int32 → zMem → Prop) (h : f_X8_areNear N x1 x2 M Q) : zMI l G yX8_areNear cX8_areNear 3 .boolean 1 [zR G 47, .int x1, .int x2] M Q := by
  refine zEZ (by decide) (Nat.le_of_ble_eq_true rfl) (lv := [(0, zR G 47), (1, .int x1), (2, .int x2)]) rfl (fun X C R => ?_)
  have C : zC G X cX8_areNear RX8 1 3 := C
  unfold f_X8_areNear at h
  refine zr_aload_n C 0 dX8_areNear_0 rfl rfl ?_
  refine zg_X8_44 C zo_47 dX8_areNear_1 ?_
  refine zr_iload_n C 1 dX8_areNear_4 rfl rfl ?_
  refine zr_zald C za_59 h.1 dX8_areNear_5 ?_
  have h := h.2
  refine zr_if_ne C 64 dX8_areNear_6 (by decide) (fun c => ?_) (fun c => ?_)
  · have h := h.1 c
    refine zr_iconst C (v := 0) dX8_areNear_64 (by decide) ?_
    exact R _ _ _ _ zb_0.1 h dX8_areNear_65
  · have h := h.2 c
    refine zr_aload_n C 0 dX8_areNear_9 rfl rfl ?_
    refine zg_X8_44 C zo_47 dX8_areNear_10 ?_
    refine zr_iload_n C 2 dX8_areNear_13 rfl rfl ?_
    refine zr_zald C za_59 h.1 dX8_areNear_14 ?_
    have h := h.2
    refine zr_if_ne C 64 dX8_areNear_15 (by decide) (fun c => ?_) (fun c => ?_)
    · have h := h.1 c
      refine zr_iconst C (v := 0) dX8_areNear_64 (by decide) ?_
      exact R _ _ _ _ zb_0.1 h dX8_areNear_65
    · have h := h.2 c
      refine zr_aload_n C 0 dX8_areNear_18 rfl rfl ?_
      refine zg_X8_38 C zo_47 dX8_areNear_19 ?_
      refine zr_iload_n C 1 dX8_areNear_22 rfl rfl ?_
      refine zr_iald C za_57 h.1 dX8_areNear_23 ?_
      have h := h.2
      refine zr_aload_n C 0 dX8_areNear_24 rfl rfl ?_
      refine zg_X8_38 C zo_47 dX8_areNear_25 ?_
      refine zr_iload_n C 2 dX8_areNear_28 rfl rfl ?_
      refine zr_iald C za_57 h.1 dX8_areNear_29 ?_
      have h := h.2
      refine zr_isub C dX8_areNear_30 ?_
      refine zr_iconst C (v := -1) dX8_areNear_31 (by decide) ?_
      refine zr_iconst C (v := 1) dX8_areNear_32 (by decide) ?_
      refine zcI (zrunS C (rest := []) (c_X8_in X.2.1 G N _ _ _ _ _ h) zk_X8_in zl_X8_63 (by decide) (by decide) rfl (Nat.le_of_ble_eq_true rfl) rfl dX8_areNear_33) (fun r1 M2 h => ?_)
      refine zr_if_eq C 64 dX8_areNear_36 (by decide) (fun c => ?_) (fun c => ?_)
      · have h := h.1 c
        refine zr_iconst C (v := 0) dX8_areNear_64 (by decide) ?_
        exact R _ _ _ _ zb_0.1 h dX8_areNear_65
      · have h := h.2 c
        refine zr_aload_n C 0 dX8_areNear_39 rfl rfl ?_
        refine zg_X8_41 C zo_47 dX8_areNear_40 ?_
        refine zr_iload_n C 1 dX8_areNear_43 rfl rfl ?_
        refine zr_iald C za_58 h.1 dX8_areNear_44 ?_
        have h := h.2
        refine zr_aload_n C 0 dX8_areNear_45 rfl rfl ?_
        refine zg_X8_41 C zo_47 dX8_areNear_46 ?_
        refine zr_iload_n C 2 dX8_areNear_49 rfl rfl ?_
        refine zr_iald C za_58 h.1 dX8_areNear_50 ?_
        have h := h.2
        refine zr_isub C dX8_areNear_51 ?_
        refine zr_iconst C (v := -1) dX8_areNear_52 (by decide) ?_
        refine zr_iconst C (v := 1) dX8_areNear_53 (by decide) ?_
        refine zcI (zrunS C (rest := []) (c_X8_in X.2.1 G N _ _ _ _ _ h) zk_X8_in zl_X8_63 (by decide) (by decide) rfl (Nat.le_of_ble_eq_true rfl) rfl dX8_areNear_54) (fun r3 M4 h => ?_)
        refine zr_if_eq C 64 dX8_areNear_57 (by decide) (fun c => ?_) (fun c => ?_)
        · have h := h.1 c
          refine zr_iconst C (v := 0) dX8_areNear_64 (by decide) ?_
          exact R _ _ _ _ zb_0.1 h dX8_areNear_65
        · have h := h.2 c
          refine zr_iconst C (v := 1) dX8_areNear_60 (by decide) ?_
          refine zr_goto C 65 dX8_areNear_61 (by decide) ?_
          exact R _ _ _ _ zb_1.1 h dX8_areNear_65
/-! X8_laysSpots -/
set_option maxHeartbeats 4000000 in
set_option maxRecDepth 100000 in
theorem w_X8_laysSpots_b193 {G : zG} {X : zX} (C : zC G X cX8_laysSpots RX8 2 5) (N : Nat) (Q : zMem → Prop) (R : zRU G X cX8_laysSpots Q) (k193 : Int32 → zMem → Prop) (hk193 : ∀ (z2 : Int32) (M : zMem), k193 z2 M → zV G X M [(0, zR G 47), (2, .int z2)] [] 193) (x2 : Int32) (M : zMem) (h : f_X8_laysSpots_b193 N k193 x2 M Q) : zV G X M [(0, zR G 47), (2, .int x2)] [] 193 := by
  unfold f_X8_laysSpots_b193 at h
  refine zr_iload_n C 1 dX8_laysSpots_193 rfl rfl ?_
  refine zr_aload_n C 0 dX8_laysSpots_194 rfl rfl ?_
  refine zg_X8_202 C zo_47 dX8_laysSpots_195 ?_
  refine zr_icmp_ge C 221 dX8_laysSpots_198 (by decide) (fun c => ?_) (fun c => ?_)
  · have h := h.1 c
    exact R _ _ _ h dX8_laysSpots_221
  · have h := h.2 c
    refine zr_aload_n C 0 dX8_laysSpots_201 rfl rfl ?_
    refine zg_X8_47 C zo_47 dX8_laysSpots_202 ?_
    refine zr_iload_n C 1 dX8_laysSpots_205 rfl rfl ?_
    refine zr_iconst C (v := -1) dX8_laysSpots_206 (by decide) ?_
    refine zr_aload_n C 0 dX8_laysSpots_207 rfl rfl ?_
    refine zg_X8_47 C zo_47 dX8_laysSpots_208 ?_
    refine zr_iload_n C 1 dX8_laysSpots_211 rfl rfl ?_
    refine zr_iald C za_60 h.1 dX8_laysSpots_212 ?_
    have h := h.2
    refine zr_isub C dX8_laysSpots_213 ?_
    refine zr_iast C za_60 h.1 dX8_laysSpots_214 ?_
    have h := h.2
    refine zr_letM (fun M2 hM2 => ?_)
    have h := h M2 hM2
    obtain ⟨v3, hv3⟩ : ∃ y : Int32, y = x2 + (1 : Int32) := ⟨_, rfl⟩
    have h := h v3 hv3
    refine zr_iinc C 1 [1, 0] dX8_laysSpots_215 rfl (by rw [hv3]; rfl) (by decide) rfl (lv' := [(0, zR G 47), (2, .int v3)]) ?_
    refine zr_goto C 193 dX8_laysSpots_218 (by decide) ?_
    exact hk193 _ _ h
theorem w_X8_laysSpots_l193 {G : zG} {X : zX} (C : zC G X cX8_laysSpots RX8 2 5) (N : Nat) (Q : zMem → Prop) (R : zRU G X cX8_laysSpots Q)  : ∀ (n : Nat) (x2 : Int32) (M : zMem), f_X8_laysSpots_l193 N  Q n x2 M → zV G X M [(0, zR G 47), (2, .int x2)] [] 193 := by
  intro n
  induction n with
  | zero => intro x2 M h; exact h.elim
  | succ n ih =>
    intro x2 M h
    exact w_X8_laysSpots_b193 C N Q R   _ ih x2 M h
set_option maxHeartbeats 4000000 in
set_option maxRecDepth 100000 in
theorem w_X8_laysSpots_b181 {G : zG} {X : zX} (C : zC G X cX8_laysSpots RX8 2 5) (N : Nat) (Q : zMem → Prop) (R : zRU G X cX8_laysSpots Q) (x2 : Int32) (s1 : Int32) (s2 : Int32) (k88 : Int32 → zMem → Prop) (hk88 : ∀ (z2 : Int32) (M : zMem), k88 z2 M → zV G X M [(0, zR G 47), (2, .int z2)] [] 88) (M : zMem) (h : f_X8_laysSpots_b181 N k88 x2 s1 s2 M Q) : zV G X M [(0, zR G 47), (2, .int x2)] [.int s2, .int s1, zR G 47] 181 := by
  unfold f_X8_laysSpots_b181 at h
  refine zr_iadd C dX8_laysSpots_181 ?_
  refine zp_X8_208 C zo_47 dX8_laysSpots_182 ?_
  refine zr_letM (fun M4 hM4 => ?_)
  have h := h M4 hM4
  obtain ⟨v5, hv5⟩ : ∃ y : Int32, y = x2 + (1 : Int32) := ⟨_, rfl⟩
  have h := h v5 hv5
  refine zr_iinc C 1 [1, 0] dX8_laysSpots_185 rfl (by rw [hv5]; rfl) (by decide) rfl (lv' := [(0, zR G 47), (2, .int v5)]) ?_
  refine zr_goto C 88 dX8_laysSpots_188 (by decide) ?_
  exact hk88 _ _ h
set_option maxHeartbeats 4000000 in
set_option maxRecDepth 100000 in
theorem w_X8_laysSpots_b161 {G : zG} {X : zX} (C : zC G X cX8_laysSpots RX8 2 5) (N : Nat) (Q : zMem → Prop) (R : zRU G X cX8_laysSpots Q) (x2 : Int32) (x3 : Int32) (x4 : Int32) (k88 : Int32 → zMem → Prop) (hk88 : ∀ (z2 : Int32) (M : zMem), k88 z2 M → zV G X M [(0, zR G 47), (2, .int z2)] [] 88) (k101 : Int32 → Int32 → zMem → Prop) (hk101 : ∀ (z3 : Int32) (z4 : Int32) (M : zMem), k101 z3 z4 M → zV G X M [(0, zR G 47), (2, .int x2), (3, .int z3), (4, .int z4)] [] 101) (M : zMem) (h : f_X8_laysSpots_b161 N k88 k101 x2 x3 x4 M Q) : zV G X M [(0, zR G 47), (2, .int x2), (3, .int x3), (4, .int x4)] [] 161 := by
  unfold f_X8_laysSpots_b161 at h
  obtain ⟨v6, hv6⟩ : ∃ y : Int32, y = x4 + (1 : Int32) := ⟨_, rfl⟩
  have h := h v6 hv6
  refine zr_iinc C 3 [1, 2, 3, 0] dX8_laysSpots_161 rfl (by rw [hv6]; rfl) (by decide) rfl (lv' := [(0, zR G 47), (2, .int x2), (3, .int x3), (4, .int v6)]) ?_
  refine zr_goto C 101 dX8_laysSpots_164 (by decide) ?_
  exact hk101 _ _ _ h
set_option maxHeartbeats 4000000 in
set_option maxRecDepth 100000 in
theorem w_X8_laysSpots_b146 {G : zG} {X : zX} (C : zC G X cX8_laysSpots RX8 2 5) (N : Nat) (Q : zMem → Prop) (R : zRU G X cX8_laysSpots Q) (x2 : Int32) (x4 : Int32) (k88 : Int32 → zMem → Prop) (hk88 : ∀ (z2 : Int32) (M : zMem), k88 z2 M → zV G X M [(0, zR G 47), (2, .int z2)] [] 88) (k101 : Int32 → Int32 → zMem → Prop) (hk101 : ∀ (z3 : Int32) (z4 : Int32) (M : zMem), k101 z3 z4 M → zV G X M [(0, zR G 47), (2, .int x2), (3, .int z3), (4, .int z4)] [] 101) (M : zMem) (h : f_X8_laysSpots_b146 N k88 k101 x2 x4 M Q) : zV G X M [(0, zR G 47), (2, .int x2), (4, .int x4)] [] 146 := by
  unfold f_X8_laysSpots_b146 at h
  refine zr_iconst C (v := 1) dX8_laysSpots_146 (by decide) ?_
  refine zr_istore_n C [1, 2, 0, 3] dX8_laysSpots_147 rfl (by decide) rfl (lv' := [(0, zR G 47), (2, .int x2), (3, .int (1 : Int32)), (4, .int x4)]) ?_
  refine zr_aload_n C 0 dX8_laysSpots_148 rfl rfl ?_
  refine zg_X8_47 C zo_47 dX8_laysSpots_149 ?_
  refine zr_iload C 3 dX8_laysSpots_152 rfl ?_
  refine zr_iconst C (v := -1) dX8_laysSpots_154 (by decide) ?_
  refine zr_aload_n C 0 dX8_laysSpots_155 rfl rfl ?_
  refine zg_X8_208 C zo_47 dX8_laysSpots_156 ?_
  refine zr_isub C dX8_laysSpots_159 ?_
  refine zr_iast C za_60 h.1 dX8_laysSpots_160 ?_
  have h := h.2
  refine zr_letM (fun M7 hM7 => ?_)
  have h := h M7 hM7
  exact w_X8_laysSpots_b161 C N Q R _ _ _ _ hk88 _ hk101 _ h
set_option maxHeartbeats 4000000 in
set_option maxRecDepth 100000 in
theorem w_X8_laysSpots_b131 {G : zG} {X : zX} (C : zC G X cX8_laysSpots RX8 2 5) (N : Nat) (Q : zMem → Prop) (R : zRU G X cX8_laysSpots Q) (x2 : Int32) (x3 : Int32) (x4 : Int32) (k88 : Int32 → zMem → Prop) (hk88 : ∀ (z2 : Int32) (M : zMem), k88 z2 M → zV G X M [(0, zR G 47), (2, .int z2)] [] 88) (k101 : Int32 → Int32 → zMem → Prop) (hk101 : ∀ (z3 : Int32) (z4 : Int32) (M : zMem), k101 z3 z4 M → zV G X M [(0, zR G 47), (2, .int x2), (3, .int z3), (4, .int z4)] [] 101) (M : zMem) (h : f_X8_laysSpots_b131 N k88 k101 x2 x3 x4 M Q) : zV G X M [(0, zR G 47), (2, .int x2), (3, .int x3), (4, .int x4)] [] 131 := by
  unfold f_X8_laysSpots_b131 at h
  refine zr_iload_n C 2 dX8_laysSpots_131 rfl rfl ?_
  refine zr_if_eq C 161 dX8_laysSpots_132 (by decide) (fun c => ?_) (fun c => ?_)
  · have h := h.1 c
    exact w_X8_laysSpots_b161 C N Q R _ _ _ _ hk88 _ hk101 _ h
  · have h := h.2 c
    refine zr_aload_n C 0 dX8_laysSpots_135 rfl rfl ?_
    refine zg_X8_47 C zo_47 dX8_laysSpots_136 ?_
    refine zr_iload C 3 dX8_laysSpots_139 rfl ?_
    refine zr_iald C za_60 h.1 dX8_laysSpots_141 ?_
    have h := h.2
    refine zr_iload_n C 1 dX8_laysSpots_142 rfl rfl ?_
    refine zr_icmp_ne C 161 dX8_laysSpots_143 (by decide) (fun c => ?_) (fun c => ?_)
    · have h := h.1 c
      exact w_X8_laysSpots_b161 C N Q R _ _ _ _ hk88 _ hk101 _ h
    · have h := h.2 c
      refine zr_sub [0, 1, 3] rfl (lv' := [(0, zR G 47), (2, .int x2), (4, .int x4)]) ?_
      exact w_X8_laysSpots_b146 C N Q R _ _ _ hk88 _ hk101 _ h
set_option maxHeartbeats 4000000 in
set_option maxRecDepth 100000 in
theorem w_X8_laysSpots_b101 {G : zG} {X : zX} (C : zC G X cX8_laysSpots RX8 2 5) (N : Nat) (Q : zMem → Prop) (R : zRU G X cX8_laysSpots Q) (x2 : Int32) (k88 : Int32 → zMem → Prop) (hk88 : ∀ (z2 : Int32) (M : zMem), k88 z2 M → zV G X M [(0, zR G 47), (2, .int z2)] [] 88) (k101 : Int32 → Int32 → zMem → Prop) (hk101 : ∀ (z3 : Int32) (z4 : Int32) (M : zMem), k101 z3 z4 M → zV G X M [(0, zR G 47), (2, .int x2), (3, .int z3), (4, .int z4)] [] 101) (x3 : Int32) (x4 : Int32) (M : zMem) (h : f_X8_laysSpots_b101 N k88 k101 x2 x3 x4 M Q) : zV G X M [(0, zR G 47), (2, .int x2), (3, .int x3), (4, .int x4)] [] 101 := by
  unfold f_X8_laysSpots_b101 at h
  refine zr_iload C 3 dX8_laysSpots_101 rfl ?_
  refine zr_aload_n C 0 dX8_laysSpots_103 rfl rfl ?_
  refine zg_X8_202 C zo_47 dX8_laysSpots_104 ?_
  refine zr_icmp_ge C 167 dX8_laysSpots_107 (by decide) (fun c => ?_) (fun c => ?_)
  · have h := h.1 c
    refine zr_aload_n C 0 dX8_laysSpots_167 rfl rfl ?_
    refine zr_dup C rfl dX8_laysSpots_168 ?_
    refine zg_X8_208 C zo_47 dX8_laysSpots_169 ?_
    refine zr_iload_n C 2 dX8_laysSpots_172 rfl rfl ?_
    refine zr_if_eq C 180 dX8_laysSpots_173 (by decide) (fun c => ?_) (fun c => ?_)
    · have h := h.1 c
      refine zr_iconst C (v := 0) dX8_laysSpots_180 (by decide) ?_
      refine zr_sub [0, 1] rfl (lv' := [(0, zR G 47), (2, .int x2)]) ?_
      exact w_X8_laysSpots_b181 C N Q R _ _ _ _ hk88 _ h
    · have h := h.2 c
      refine zr_iconst C (v := 1) dX8_laysSpots_176 (by decide) ?_
      refine zr_goto C 181 dX8_laysSpots_177 (by decide) ?_
      refine zr_sub [0, 1] rfl (lv' := [(0, zR G 47), (2, .int x2)]) ?_
      exact w_X8_laysSpots_b181 C N Q R _ _ _ _ hk88 _ h
  · have h := h.2 c
    refine zr_aload_n C 0 dX8_laysSpots_110 rfl rfl ?_
    refine zg_X8_47 C zo_47 dX8_laysSpots_111 ?_
    refine zr_iload C 3 dX8_laysSpots_114 rfl ?_
    refine zr_iald C za_60 h.1 dX8_laysSpots_116 ?_
    have h := h.2
    refine zr_iload_n C 1 dX8_laysSpots_117 rfl rfl ?_
    refine zr_icmp_ne C 131 dX8_laysSpots_118 (by decide) (fun c => ?_) (fun c => ?_)
    · have h := h.1 c
      exact w_X8_laysSpots_b131 C N Q R _ _ _ _ hk88 _ hk101 _ h
    · have h := h.2 c
      refine zr_iload_n C 2 dX8_laysSpots_121 rfl rfl ?_
      refine zr_if_ne C 131 dX8_laysSpots_122 (by decide) (fun c => ?_) (fun c => ?_)
      · have h := h.1 c
        exact w_X8_laysSpots_b131 C N Q R _ _ _ _ hk88 _ hk101 _ h
      · have h := h.2 c
        refine zr_iload C 3 dX8_laysSpots_125 rfl ?_
        refine zr_iload_n C 1 dX8_laysSpots_127 rfl rfl ?_
        refine zr_icmp_eq C 146 dX8_laysSpots_128 (by decide) (fun c => ?_) (fun c => ?_)
        · have h := h.1 c
          refine zr_sub [0, 1, 3] rfl (lv' := [(0, zR G 47), (2, .int x2), (4, .int x4)]) ?_
          exact w_X8_laysSpots_b146 C N Q R _ _ _ hk88 _ hk101 _ h
        · have h := h.2 c
          exact w_X8_laysSpots_b131 C N Q R _ _ _ _ hk88 _ hk101 _ h
theorem w_X8_laysSpots_l101 {G : zG} {X : zX} (C : zC G X cX8_laysSpots RX8 2 5) (N : Nat) (Q : zMem → Prop) (R : zRU G X cX8_laysSpots Q) (x2 : Int32) (k88 : Int32 → zMem → Prop) (hk88 : ∀ (z2 : Int32) (M : zMem), k88 z2 M → zV G X M [(0, zR G 47), (2, .int z2)] [] 88) : ∀ (n : Nat) (x3 : Int32) (x4 : Int32) (M : zMem), f_X8_laysSpots_l101 N k88 x2 Q n x3 x4 M → zV G X M [(0, zR G 47), (2, .int x2), (3, .int x3), (4, .int x4)] [] 101 := by
  intro n
  induction n with
  | zero => intro x3 x4 M h; exact h.elim
  | succ n ih =>
    intro x3 x4 M h
    exact w_X8_laysSpots_b101 C N Q R x2 k88 hk88 _ ih x3 x4 M h
set_option maxHeartbeats 4000000 in
set_option maxRecDepth 100000 in
theorem w_X8_laysSpots_b88 {G : zG} {X : zX} (C : zC G X cX8_laysSpots RX8 2 5) (N : Nat) (Q : zMem → Prop) (R : zRU G X cX8_laysSpots Q) (k88 : Int32 → zMem → Prop) (hk88 : ∀ (z2 : Int32) (M : zMem), k88 z2 M → zV G X M [(0, zR G 47), (2, .int z2)] [] 88) (x2 : Int32) (M : zMem) (h : f_X8_laysSpots_b88 N k88 x2 M Q) : zV G X M [(0, zR G 47), (2, .int x2)] [] 88 := by
  unfold f_X8_laysSpots_b88 at h
  refine zr_iload_n C 1 dX8_laysSpots_88 rfl rfl ?_
  refine zr_aload_n C 0 dX8_laysSpots_89 rfl rfl ?_
  refine zg_X8_202 C zo_47 dX8_laysSpots_90 ?_
  refine zr_icmp_ge C 191 dX8_laysSpots_93 (by decide) (fun c => ?_) (fun c => ?_)
  · have h := h.1 c
    refine zr_iconst C (v := 0) dX8_laysSpots_191 (by decide) ?_
    refine zr_istore_n C [1, 0] dX8_laysSpots_192 rfl (by decide) rfl (lv' := [(0, zR G 47), (2, .int (0 : Int32))]) ?_
    exact w_X8_laysSpots_l193 C N Q R  N _ _ h
  · have h := h.2 c
    refine zr_iconst C (v := 0) dX8_laysSpots_96 (by decide) ?_
    refine zr_istore_n C [1, 2, 0] dX8_laysSpots_97 rfl (by decide) rfl (lv' := [(0, zR G 47), (2, .int x2), (3, .int (0 : Int32))]) ?_
    refine zr_iload_n C 1 dX8_laysSpots_98 rfl rfl ?_
    refine zr_istore C [1, 2, 3, 0] dX8_laysSpots_99 (by decide) rfl (lv' := [(0, zR G 47), (2, .int x2), (3, .int (0 : Int32)), (4, .int x2)]) ?_
    exact w_X8_laysSpots_l101 C N Q R _ _ hk88 N _ _ _ h
theorem w_X8_laysSpots_l88 {G : zG} {X : zX} (C : zC G X cX8_laysSpots RX8 2 5) (N : Nat) (Q : zMem → Prop) (R : zRU G X cX8_laysSpots Q)  : ∀ (n : Nat) (x2 : Int32) (M : zMem), f_X8_laysSpots_l88 N  Q n x2 M → zV G X M [(0, zR G 47), (2, .int x2)] [] 88 := by
  intro n
  induction n with
  | zero => intro x2 M h; exact h.elim
  | succ n ih =>
    intro x2 M h
    exact w_X8_laysSpots_b88 C N Q R   _ ih x2 M h
set_option maxHeartbeats 4000000 in
set_option maxRecDepth 100000 in
theorem w_X8_laysSpots_b66 {G : zG} {X : zX} (C : zC G X cX8_laysSpots RX8 2 5) (N : Nat) (Q : zMem → Prop) (R : zRU G X cX8_laysSpots Q) (x1 : Int32) (x2 : Int32) (x3 : Int32) (k2 : Int32 → zMem → Prop) (hk2 : ∀ (z1 : Int32) (M : zMem), k2 z1 M → zV G X M [(0, zR G 47), (1, .int z1)] [] 2) (k10 : Int32 → Int32 → zMem → Prop) (hk10 : ∀ (z1 : Int32) (z2 : Int32) (M : zMem), k10 z1 z2 M → zV G X M [(0, zR G 47), (1, .int z1), (2, .int z2)] [] 10) (k20 : Int32 → Int32 → zMem → Prop) (hk20 : ∀ (z1 : Int32) (z3 : Int32) (M : zMem), k20 z1 z3 M → zV G X M [(0, zR G 47), (1, .int z1), (2, .int x2), (3, .int z3)] [] 20) (M : zMem) (h : f_X8_laysSpots_b66 N k2 k10 k20 x1 x2 x3 M Q) : zV G X M [(0, zR G 47), (1, .int x1), (2, .int x2), (3, .int x3)] [] 66 := by
  unfold f_X8_laysSpots_b66 at h
  obtain ⟨v11, hv11⟩ : ∃ y : Int32, y = x3 + (1 : Int32) := ⟨_, rfl⟩
  have h := h v11 hv11
  refine zr_iinc C 3 [1, 2, 3, 0] dX8_laysSpots_66 rfl (by rw [hv11]; rfl) (by decide) rfl (lv' := [(0, zR G 47), (1, .int x1), (2, .int x2), (3, .int v11)]) ?_
  refine zr_goto C 20 dX8_laysSpots_69 (by decide) ?_
  exact hk20 _ _ _ h
set_option maxHeartbeats 4000000 in
set_option maxRecDepth 100000 in
theorem w_X8_laysSpots_b20 {G : zG} {X : zX} (C : zC G X cX8_laysSpots RX8 2 5) (N : Nat) (Q : zMem → Prop) (R : zRU G X cX8_laysSpots Q) (x2 : Int32) (k2 : Int32 → zMem → Prop) (hk2 : ∀ (z1 : Int32) (M : zMem), k2 z1 M → zV G X M [(0, zR G 47), (1, .int z1)] [] 2) (k10 : Int32 → Int32 → zMem → Prop) (hk10 : ∀ (z1 : Int32) (z2 : Int32) (M : zMem), k10 z1 z2 M → zV G X M [(0, zR G 47), (1, .int z1), (2, .int z2)] [] 10) (k20 : Int32 → Int32 → zMem → Prop) (hk20 : ∀ (z1 : Int32) (z3 : Int32) (M : zMem), k20 z1 z3 M → zV G X M [(0, zR G 47), (1, .int z1), (2, .int x2), (3, .int z3)] [] 20) (x1 : Int32) (x3 : Int32) (M : zMem) (h : f_X8_laysSpots_b20 N k2 k10 k20 x2 x1 x3 M Q) : zV G X M [(0, zR G 47), (1, .int x1), (2, .int x2), (3, .int x3)] [] 20 := by
  unfold f_X8_laysSpots_b20 at h
  refine zr_iload_n C 3 dX8_laysSpots_20 rfl rfl ?_
  refine zr_aload_n C 0 dX8_laysSpots_21 rfl rfl ?_
  refine zg_X8_202 C zo_47 dX8_laysSpots_22 ?_
  refine zr_icmp_ge C 72 dX8_laysSpots_25 (by decide) (fun c => ?_) (fun c => ?_)
  · have h := h.1 c
    obtain ⟨v8, hv8⟩ : ∃ y : Int32, y = x2 + (1 : Int32) := ⟨_, rfl⟩
    have h := h v8 hv8
    refine zr_iinc C 2 [1, 2, 0] dX8_laysSpots_72 rfl (by rw [hv8]; rfl) (by decide) rfl (lv' := [(0, zR G 47), (1, .int x1), (2, .int v8)]) ?_
    refine zr_goto C 10 dX8_laysSpots_75 (by decide) ?_
    exact hk10 _ _ _ h
  · have h := h.2 c
    refine zr_aload_n C 0 dX8_laysSpots_28 rfl rfl ?_
    refine zr_iload_n C 2 dX8_laysSpots_29 rfl rfl ?_
    refine zr_iload_n C 3 dX8_laysSpots_30 rfl rfl ?_
    refine zcI (zrunV C (rest := []) (c_X8_areNear X.2.1 G N _ _ _ _ h) zk_X8_areNear zl_X8_205 (zRc_7 zo_47) (by decide) (by decide) rfl (Nat.le_of_ble_eq_true rfl) rfl dX8_laysSpots_31) (fun r9 M10 h => ?_)
    refine zr_if_eq C 66 dX8_laysSpots_34 (by decide) (fun c => ?_) (fun c => ?_)
    · have h := h.1 c
      exact w_X8_laysSpots_b66 C N Q R _ _ _ _ hk2 _ hk10 _ hk20 _ h
    · have h := h.2 c
      refine zr_aload_n C 0 dX8_laysSpots_37 rfl rfl ?_
      refine zg_X8_47 C zo_47 dX8_laysSpots_38 ?_
      refine zr_iload_n C 3 dX8_laysSpots_41 rfl rfl ?_
      refine zr_iald C za_60 h.1 dX8_laysSpots_42 ?_
      have h := h.2
      refine zr_aload_n C 0 dX8_laysSpots_43 rfl rfl ?_
      refine zg_X8_47 C zo_47 dX8_laysSpots_44 ?_
      refine zr_iload_n C 2 dX8_laysSpots_47 rfl rfl ?_
      refine zr_iald C za_60 h.1 dX8_laysSpots_48 ?_
      have h := h.2
      refine zr_icmp_ge C 66 dX8_laysSpots_49 (by decide) (fun c => ?_) (fun c => ?_)
      · have h := h.1 c
        exact w_X8_laysSpots_b66 C N Q R _ _ _ _ hk2 _ hk10 _ hk20 _ h
      · have h := h.2 c
        refine zr_aload_n C 0 dX8_laysSpots_52 rfl rfl ?_
        refine zg_X8_47 C zo_47 dX8_laysSpots_53 ?_
        refine zr_iload_n C 2 dX8_laysSpots_56 rfl rfl ?_
        refine zr_aload_n C 0 dX8_laysSpots_57 rfl rfl ?_
        refine zg_X8_47 C zo_47 dX8_laysSpots_58 ?_
        refine zr_iload_n C 3 dX8_laysSpots_61 rfl rfl ?_
        refine zr_iald C za_60 h.1 dX8_laysSpots_62 ?_
        have h := h.2
        refine zr_iast C za_60 h.1 dX8_laysSpots_63 ?_
        have h := h.2
        refine zr_letM (fun M12 hM12 => ?_)
        have h := h M12 hM12
        refine zr_iconst C (v := 1) dX8_laysSpots_64 (by decide) ?_
        refine zr_istore_n C [1, 0, 2, 3] dX8_laysSpots_65 rfl (by decide) rfl (lv' := [(0, zR G 47), (1, .int (1 : Int32)), (2, .int x2), (3, .int x3)]) ?_
        exact w_X8_laysSpots_b66 C N Q R _ _ _ _ hk2 _ hk10 _ hk20 _ h
theorem w_X8_laysSpots_l20 {G : zG} {X : zX} (C : zC G X cX8_laysSpots RX8 2 5) (N : Nat) (Q : zMem → Prop) (R : zRU G X cX8_laysSpots Q) (x2 : Int32) (k2 : Int32 → zMem → Prop) (hk2 : ∀ (z1 : Int32) (M : zMem), k2 z1 M → zV G X M [(0, zR G 47), (1, .int z1)] [] 2) (k10 : Int32 → Int32 → zMem → Prop) (hk10 : ∀ (z1 : Int32) (z2 : Int32) (M : zMem), k10 z1 z2 M → zV G X M [(0, zR G 47), (1, .int z1), (2, .int z2)] [] 10) : ∀ (n : Nat) (x1 : Int32) (x3 : Int32) (M : zMem), f_X8_laysSpots_l20 N k2 k10 x2 Q n x1 x3 M → zV G X M [(0, zR G 47), (1, .int x1), (2, .int x2), (3, .int x3)] [] 20 := by
  intro n
  induction n with
  | zero => intro x1 x3 M h; exact h.elim
  | succ n ih =>
    intro x1 x3 M h
    exact w_X8_laysSpots_b20 C N Q R x2 k2 hk2 k10 hk10 _ ih x1 x3 M h
set_option maxHeartbeats 4000000 in
set_option maxRecDepth 100000 in
theorem w_X8_laysSpots_b10 {G : zG} {X : zX} (C : zC G X cX8_laysSpots RX8 2 5) (N : Nat) (Q : zMem → Prop) (R : zRU G X cX8_laysSpots Q) (k2 : Int32 → zMem → Prop) (hk2 : ∀ (z1 : Int32) (M : zMem), k2 z1 M → zV G X M [(0, zR G 47), (1, .int z1)] [] 2) (k10 : Int32 → Int32 → zMem → Prop) (hk10 : ∀ (z1 : Int32) (z2 : Int32) (M : zMem), k10 z1 z2 M → zV G X M [(0, zR G 47), (1, .int z1), (2, .int z2)] [] 10) (x1 : Int32) (x2 : Int32) (M : zMem) (h : f_X8_laysSpots_b10 N k2 k10 x1 x2 M Q) : zV G X M [(0, zR G 47), (1, .int x1), (2, .int x2)] [] 10 := by
  unfold f_X8_laysSpots_b10 at h
  refine zr_iload_n C 2 dX8_laysSpots_10 rfl rfl ?_
  refine zr_aload_n C 0 dX8_laysSpots_11 rfl rfl ?_
  refine zg_X8_202 C zo_47 dX8_laysSpots_12 ?_
  refine zr_icmp_ge C 78 dX8_laysSpots_15 (by decide) (fun c => ?_) (fun c => ?_)
  · have h := h.1 c
    refine zr_goto C 2 dX8_laysSpots_78 (by decide) ?_
    refine zr_sub [0, 1] rfl (lv' := [(0, zR G 47), (1, .int x1)]) ?_
    exact hk2 _ _ h
  · have h := h.2 c
    refine zr_iconst C (v := 0) dX8_laysSpots_18 (by decide) ?_
    refine zr_istore_n C [1, 2, 3, 0] dX8_laysSpots_19 rfl (by decide) rfl (lv' := [(0, zR G 47), (1, .int x1), (2, .int x2), (3, .int (0 : Int32))]) ?_
    exact w_X8_laysSpots_l20 C N Q R _ _ hk2 _ hk10 N _ _ _ h
theorem w_X8_laysSpots_l10 {G : zG} {X : zX} (C : zC G X cX8_laysSpots RX8 2 5) (N : Nat) (Q : zMem → Prop) (R : zRU G X cX8_laysSpots Q) (k2 : Int32 → zMem → Prop) (hk2 : ∀ (z1 : Int32) (M : zMem), k2 z1 M → zV G X M [(0, zR G 47), (1, .int z1)] [] 2) : ∀ (n : Nat) (x1 : Int32) (x2 : Int32) (M : zMem), f_X8_laysSpots_l10 N k2 Q n x1 x2 M → zV G X M [(0, zR G 47), (1, .int x1), (2, .int x2)] [] 10 := by
  intro n
  induction n with
  | zero => intro x1 x2 M h; exact h.elim
  | succ n ih =>
    intro x1 x2 M h
    exact w_X8_laysSpots_b10 C N Q R  k2 hk2 _ ih x1 x2 M h
set_option maxHeartbeats 4000000 in
set_option maxRecDepth 100000 in
theorem w_X8_laysSpots_b2 {G : zG} {X : zX} (C : zC G X cX8_laysSpots RX8 2 5) (N : Nat) (Q : zMem → Prop) (R : zRU G X cX8_laysSpots Q) (k2 : Int32 → zMem → Prop) (hk2 : ∀ (z1 : Int32) (M : zMem), k2 z1 M → zV G X M [(0, zR G 47), (1, .int z1)] [] 2) (x1 : Int32) (M : zMem) (h : f_X8_laysSpots_b2 N k2 x1 M Q) : zV G X M [(0, zR G 47), (1, .int x1)] [] 2 := by
  unfold f_X8_laysSpots_b2 at h
  refine zr_iload_n C 1 dX8_laysSpots_2 rfl rfl ?_
  refine zr_if_eq C 81 dX8_laysSpots_3 (by decide) (fun c => ?_) (fun c => ?_)
  · have h := h.1 c
    refine zr_aload_n C 0 dX8_laysSpots_81 rfl rfl ?_
    refine zr_iconst C (v := 0) dX8_laysSpots_82 (by decide) ?_
    refine zp_X8_208 C zo_47 dX8_laysSpots_83 ?_
    refine zr_letM (fun M1 hM1 => ?_)
    have h := h M1 hM1
    refine zr_iconst C (v := 0) dX8_laysSpots_86 (by decide) ?_
    refine zr_istore_n C [1, 0] dX8_laysSpots_87 rfl (by decide) rfl (lv' := [(0, zR G 47), (2, .int (0 : Int32))]) ?_
    exact w_X8_laysSpots_l88 C N Q R  N _ _ h
  · have h := h.2 c
    refine zr_iconst C (v := 0) dX8_laysSpots_6 (by decide) ?_
    refine zr_istore_n C [1, 0] dX8_laysSpots_7 rfl (by decide) rfl (lv' := [(0, zR G 47), (1, .int (0 : Int32))]) ?_
    refine zr_iconst C (v := 0) dX8_laysSpots_8 (by decide) ?_
    refine zr_istore_n C [1, 2, 0] dX8_laysSpots_9 rfl (by decide) rfl (lv' := [(0, zR G 47), (1, .int (0 : Int32)), (2, .int (0 : Int32))]) ?_
    exact w_X8_laysSpots_l10 C N Q R _ hk2 N _ _ _ h
theorem w_X8_laysSpots_l2 {G : zG} {X : zX} (C : zC G X cX8_laysSpots RX8 2 5) (N : Nat) (Q : zMem → Prop) (R : zRU G X cX8_laysSpots Q)  : ∀ (n : Nat) (x1 : Int32) (M : zMem), f_X8_laysSpots_l2 N  Q n x1 M → zV G X M [(0, zR G 47), (1, .int x1)] [] 2 := by
  intro n
  induction n with
  | zero => intro x1 M h; exact h.elim
  | succ n ih =>
    intro x1 M h
    exact w_X8_laysSpots_b2 C N Q R   _ ih x1 M h
set_option maxHeartbeats 4000000 in
set_option maxRecDepth 100000 in
theorem c_X8_laysSpots (l : Launch) (G : zG) (N : Nat)  (M : zMem) (Q : zMem → Prop) (h : f_X8_laysSpots N  M Q) : zMU l G yX8_laysSpots cX8_laysSpots 5 2 [zR G 47] M Q := by
  refine zEU (by decide) (Nat.le_of_ble_eq_true rfl) (lv := [(0, zR G 47)]) rfl (fun X C R => ?_)
  have C : zC G X cX8_laysSpots RX8 2 5 := C
  unfold f_X8_laysSpots at h
  refine zr_iconst C (v := 1) dX8_laysSpots_0 (by decide) ?_
  refine zr_istore_n C [1, 0] dX8_laysSpots_1 rfl (by decide) rfl (lv' := [(0, zR G 47), (1, .int (1 : Int32))]) ?_
  exact w_X8_laysSpots_l2 C N Q R  N _ _ h
