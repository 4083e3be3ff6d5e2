/-! X0_at -/
set_option maxHeartbeats 4000000 in
set_option maxRecDepth 100000 in
theorem c_X0_at (l : Launch) (G : zG) (N : Nat) (a0 : Nat) (ha0 : zkd a0 = 0) (x1 : Int32) (x2 : Int32) (x3 : Int32) (M : zMem) (Q : Int32 → zMem → Prop) (h : f_X0_at N a0 x1 x2 x3 M Q) : zMI l G yX0_at cX0_at 4 .int 0 [zR G a0, .int x1, .int x2, .int x3] M Q := by
  refine zEI (by decide) (Nat.le_of_ble_eq_true rfl) (lv := [(0, zR G a0), (1, .int x1), (2, .int x2), (3, .int x3)]) rfl (fun X C R => ?_)
  have C : zC G X cX0_at RX0 0 4 := C
  unfold f_X0_at at h
  refine zr_aload_n C 0 dX0_at_0 rfl rfl ?_
  refine zg_X0_15 C ha0 dX0_at_1 ?_
  refine zr_iload_n C 1 dX0_at_4 rfl rfl ?_
  refine zr_bipush C (v := 8) dX0_at_5 (by decide) ?_
  refine zr_imul C dX0_at_7 ?_
  refine zr_iconst C (v := 2) dX0_at_8 (by decide) ?_
  refine zr_iload_n C 2 dX0_at_9 rfl rfl ?_
  refine zr_imul C dX0_at_10 ?_
  refine zr_iadd C dX0_at_11 ?_
  refine zr_iload_n C 3 dX0_at_12 rfl rfl ?_
  refine zr_iadd C dX0_at_13 ?_
  refine zr_iald C (zkd0_2 ha0) h.1 dX0_at_14 ?_
  have h := h.2
  exact R _ _ _ _ h dX0_at_15
/-! X0_halve -/
set_option maxHeartbeats 4000000 in
set_option maxRecDepth 100000 in
theorem c_X0_halve (l : Launch) (G : zG) (N : Nat) (a0 : Nat) (ha0 : zkd a0 = 0) (x1 : Int32) (x2 : Int32) (M : zMem) (Q : zMem → Prop) (h : f_X0_halve N a0 x1 x2 M Q) : zMU l G yX0_halve cX0_halve 15 1 [zR G a0, .int x1, .int x2] M Q := by
  refine zEU (by decide) (Nat.le_of_ble_eq_true rfl) (lv := [(0, zR G a0), (1, .int x1), (2, .int x2)]) rfl (fun X C R => ?_)
  have C : zC G X cX0_halve RX0 1 15 := C
  unfold f_X0_halve at h
  refine zr_aload_n C 0 dX0_halve_0 rfl rfl ?_
  refine zr_iload_n C 1 dX0_halve_1 rfl rfl ?_
  refine zr_iconst C (v := 0) dX0_halve_2 (by decide) ?_
  refine zr_iload_n C 2 dX0_halve_3 rfl rfl ?_
  refine zcI (zrunV C (rest := []) (c_X0_at X.2.1 G N _ ha0 _ _ _ _ _ h) zk_X0_at zl_X0_56 (zRc_0 ha0) (by decide) (by decide) rfl (Nat.le_of_ble_eq_true rfl) rfl dX0_halve_4) (fun r1 M2 h => ?_)
  refine zr_istore_n C [1, 2, 3, 0] dX0_halve_7 rfl (by decide) rfl (lv' := [(0, zR G a0), (1, .int x1), (2, .int x2), (3, .int r1)]) ?_
  refine zr_aload_n C 0 dX0_halve_8 rfl rfl ?_
  refine zr_iload_n C 1 dX0_halve_9 rfl rfl ?_
  refine zr_iconst C (v := 1) dX0_halve_10 (by decide) ?_
  refine zr_iload_n C 2 dX0_halve_11 rfl rfl ?_
  refine zcI (zrunV C (rest := []) (c_X0_at X.2.1 G N _ ha0 _ _ _ _ _ h) zk_X0_at zl_X0_56 (zRc_0 ha0) (by decide) (by decide) rfl (Nat.le_of_ble_eq_true rfl) rfl dX0_halve_12) (fun r3 M4 h => ?_)
  refine zr_istore C [1, 2, 3, 4, 0] dX0_halve_15 (by decide) rfl (lv' := [(0, zR G a0), (1, .int x1), (2, .int x2), (3, .int r1), (4, .int r3)]) ?_
  refine zr_aload_n C 0 dX0_halve_17 rfl rfl ?_
  refine zr_iload_n C 1 dX0_halve_18 rfl rfl ?_
  refine zr_iconst C (v := 2) dX0_halve_19 (by decide) ?_
  refine zr_iload_n C 2 dX0_halve_20 rfl rfl ?_
  refine zcI (zrunV C (rest := []) (c_X0_at X.2.1 G N _ ha0 _ _ _ _ _ h) zk_X0_at zl_X0_56 (zRc_0 ha0) (by decide) (by decide) rfl (Nat.le_of_ble_eq_true rfl) rfl dX0_halve_21) (fun r5 M6 h => ?_)
  refine zr_istore C [1, 2, 3, 4, 5, 0] dX0_halve_24 (by decide) rfl (lv' := [(0, zR G a0), (1, .int x1), (2, .int x2), (3, .int r1), (4, .int r3), (5, .int r5)]) ?_
  refine zr_aload_n C 0 dX0_halve_26 rfl rfl ?_
  refine zr_iload_n C 1 dX0_halve_27 rfl rfl ?_
  refine zr_iconst C (v := 3) dX0_halve_28 (by decide) ?_
  refine zr_iload_n C 2 dX0_halve_29 rfl rfl ?_
  refine zcI (zrunV C (rest := []) (c_X0_at X.2.1 G N _ ha0 _ _ _ _ _ h) zk_X0_at zl_X0_56 (zRc_0 ha0) (by decide) (by decide) rfl (Nat.le_of_ble_eq_true rfl) rfl dX0_halve_30) (fun r7 M8 h => ?_)
  refine zr_istore C [1, 2, 3, 4, 5, 6, 0] dX0_halve_33 (by decide) rfl (lv' := [(0, zR G a0), (1, .int x1), (2, .int x2), (3, .int r1), (4, .int r3), (5, .int r5), (6, .int r7)]) ?_
  refine zr_iload_n C 3 dX0_halve_35 rfl rfl ?_
  refine zr_iload C 4 dX0_halve_36 rfl ?_
  refine zr_iadd C dX0_halve_38 ?_
  refine zr_iconst C (v := 2) dX0_halve_39 (by decide) ?_
  refine zr_idiv C dX0_halve_40 (by decide) ?_
  refine zr_letI (fun v9 hv9 => ?_)
  have h := h v9 hv9
  refine zr_istore C [1, 2, 3, 4, 5, 6, 7, 0] dX0_halve_41 (by decide) rfl (lv' := [(0, zR G a0), (1, .int x1), (2, .int x2), (3, .int r1), (4, .int r3), (5, .int r5), (6, .int r7), (7, .int v9)]) ?_
  refine zr_iload C 4 dX0_halve_43 rfl ?_
  refine zr_iload C 5 dX0_halve_45 rfl ?_
  refine zr_iadd C dX0_halve_47 ?_
  refine zr_iconst C (v := 2) dX0_halve_48 (by decide) ?_
  refine zr_idiv C dX0_halve_49 (by decide) ?_
  refine zr_letI (fun v10 hv10 => ?_)
  have h := h v10 hv10
  refine zr_istore C [1, 2, 3, 4, 6, 7, 8, 0] dX0_halve_50 (by decide) rfl (lv' := [(0, zR G a0), (1, .int x1), (2, .int x2), (3, .int r1), (5, .int r5), (6, .int r7), (7, .int v9), (8, .int v10)]) ?_
  refine zr_iload C 4 dX0_halve_52 rfl ?_
  refine zr_iload C 5 dX0_halve_54 rfl ?_
  refine zr_iadd C dX0_halve_56 ?_
  refine zr_iconst C (v := 2) dX0_halve_57 (by decide) ?_
  refine zr_idiv C dX0_halve_58 (by decide) ?_
  refine zr_letI (fun v11 hv11 => ?_)
  have h := h v11 hv11
  refine zr_istore C [1, 2, 3, 4, 6, 7, 8, 0] dX0_halve_59 (by decide) rfl (lv' := [(0, zR G a0), (1, .int x1), (2, .int x2), (3, .int r1), (6, .int r7), (7, .int v9), (8, .int v10), (9, .int v11)]) ?_
  refine zr_iload C 5 dX0_halve_61 rfl ?_
  refine zr_iload C 6 dX0_halve_63 rfl ?_
  refine zr_iadd C dX0_halve_65 ?_
  refine zr_iconst C (v := 2) dX0_halve_66 (by decide) ?_
  refine zr_idiv C dX0_halve_67 (by decide) ?_
  refine zr_letI (fun v12 hv12 => ?_)
  have h := h v12 hv12
  refine zr_istore C [1, 2, 3, 4, 5, 6, 7, 8, 0] dX0_halve_68 (by decide) rfl (lv' := [(0, zR G a0), (1, .int x1), (2, .int x2), (3, .int r1), (6, .int r7), (7, .int v9), (8, .int v10), (9, .int v11), (10, .int v12)]) ?_
  refine zr_iload C 6 dX0_halve_70 rfl ?_
  refine zr_iload C 7 dX0_halve_72 rfl ?_
  refine zr_iadd C dX0_halve_74 ?_
  refine zr_iconst C (v := 2) dX0_halve_75 (by decide) ?_
  refine zr_idiv C dX0_halve_76 (by decide) ?_
  refine zr_letI (fun v13 hv13 => ?_)
  have h := h v13 hv13
  refine zr_istore C [1, 2, 3, 4, 5, 6, 8, 9, 0] dX0_halve_77 (by decide) rfl (lv' := [(0, zR G a0), (1, .int x1), (2, .int x2), (3, .int r1), (6, .int r7), (7, .int v9), (9, .int v11), (10, .int v12), (11, .int v13)]) ?_
  refine zr_iload C 7 dX0_halve_79 rfl ?_
  refine zr_iload C 8 dX0_halve_81 rfl ?_
  refine zr_iadd C dX0_halve_83 ?_
  refine zr_iconst C (v := 2) dX0_halve_84 (by decide) ?_
  refine zr_idiv C dX0_halve_85 (by decide) ?_
  refine zr_letI (fun v14 hv14 => ?_)
  have h := h v14 hv14
  refine zr_istore C [1, 2, 3, 4, 5, 6, 7, 8, 9, 0] dX0_halve_86 (by decide) rfl (lv' := [(0, zR G a0), (1, .int x1), (2, .int x2), (3, .int r1), (6, .int r7), (7, .int v9), (9, .int v11), (10, .int v12), (11, .int v13), (12, .int v14)]) ?_
  refine zr_iconst C (v := 2) dX0_halve_88 (by decide) ?_
  refine zr_iload_n C 1 dX0_halve_89 rfl rfl ?_
  refine zr_imul C dX0_halve_90 ?_
  refine zr_bipush C (v := 8) dX0_halve_91 (by decide) ?_
  refine zr_imul C dX0_halve_93 ?_
  refine zr_iload_n C 2 dX0_halve_94 rfl rfl ?_
  refine zr_iadd C dX0_halve_95 ?_
  refine zr_letI (fun v15 hv15 => ?_)
  have h := h v15 hv15
  refine zr_istore C [1, 4, 5, 6, 7, 8, 9, 10, 0] dX0_halve_96 (by decide) rfl (lv' := [(0, zR G a0), (3, .int r1), (6, .int r7), (7, .int v9), (9, .int v11), (10, .int v12), (11, .int v13), (12, .int v14), (13, .int v15)]) ?_
  refine zr_aload_n C 0 dX0_halve_98 rfl rfl ?_
  refine zg_X0_15 C ha0 dX0_halve_99 ?_
  refine zr_iload C 8 dX0_halve_102 rfl ?_
  refine zr_iload_n C 1 dX0_halve_104 rfl rfl ?_
  refine zr_iast C (zkd0_2 ha0) h.1 dX0_halve_105 ?_
  have h := h.2
  refine zr_letM (fun M16 hM16 => ?_)
  have h := h M16 hM16
  refine zr_aload_n C 0 dX0_halve_106 rfl rfl ?_
  refine zg_X0_15 C ha0 dX0_halve_107 ?_
  refine zr_iload C 8 dX0_halve_110 rfl ?_
  refine zr_iconst C (v := 2) dX0_halve_112 (by decide) ?_
  refine zr_iadd C dX0_halve_113 ?_
  refine zr_iload C 3 dX0_halve_114 rfl ?_
  refine zr_iast C (zkd0_2 ha0) h.1 dX0_halve_116 ?_
  have h := h.2
  refine zr_letM (fun M17 hM17 => ?_)
  have h := h M17 hM17
  refine zr_aload_n C 0 dX0_halve_117 rfl rfl ?_
  refine zg_X0_15 C ha0 dX0_halve_118 ?_
  refine zr_iload C 8 dX0_halve_121 rfl ?_
  refine zr_iconst C (v := 4) dX0_halve_123 (by decide) ?_
  refine zr_iadd C dX0_halve_124 ?_
  refine zr_iload C 5 dX0_halve_125 rfl ?_
  refine zr_iast C (zkd0_2 ha0) h.1 dX0_halve_127 ?_
  have h := h.2
  refine zr_letM (fun M18 hM18 => ?_)
  have h := h M18 hM18
  refine zr_aload_n C 0 dX0_halve_128 rfl rfl ?_
  refine zg_X0_15 C ha0 dX0_halve_129 ?_
  refine zr_iload C 8 dX0_halve_132 rfl ?_
  refine zr_bipush C (v := 6) dX0_halve_134 (by decide) ?_
  refine zr_iadd C dX0_halve_136 ?_
  refine zr_iload C 7 dX0_halve_137 rfl ?_
  refine zr_iast C (zkd0_2 ha0) h.1 dX0_halve_139 ?_
  have h := h.2
  refine zr_letM (fun M19 hM19 => ?_)
  have h := h M19 hM19
  refine zr_iload C 8 dX0_halve_140 rfl ?_
  refine zr_bipush C (v := 8) dX0_halve_142 (by decide) ?_
  refine zr_iadd C dX0_halve_144 ?_
  refine zr_letI (fun v20 hv20 => ?_)
  have h := h v20 hv20
  refine zr_istore C [1, 3, 5, 7, 8, 0] dX0_halve_145 (by decide) rfl (lv' := [(0, zR G a0), (6, .int r7), (9, .int v11), (11, .int v13), (12, .int v14), (14, .int v20)]) ?_
  refine zr_aload_n C 0 dX0_halve_147 rfl rfl ?_
  refine zg_X0_15 C ha0 dX0_halve_148 ?_
  refine zr_iload C 5 dX0_halve_151 rfl ?_
  refine zr_iload C 4 dX0_halve_153 rfl ?_
  refine zr_iast C (zkd0_2 ha0) h.1 dX0_halve_155 ?_
  have h := h.2
  refine zr_letM (fun M21 hM21 => ?_)
  have h := h M21 hM21
  refine zr_aload_n C 0 dX0_halve_156 rfl rfl ?_
  refine zg_X0_15 C ha0 dX0_halve_157 ?_
  refine zr_iload C 5 dX0_halve_160 rfl ?_
  refine zr_iconst C (v := 2) dX0_halve_162 (by decide) ?_
  refine zr_iadd C dX0_halve_163 ?_
  refine zr_iload C 3 dX0_halve_164 rfl ?_
  refine zr_iast C (zkd0_2 ha0) h.1 dX0_halve_166 ?_
  have h := h.2
  refine zr_letM (fun M22 hM22 => ?_)
  have h := h M22 hM22
  refine zr_aload_n C 0 dX0_halve_167 rfl rfl ?_
  refine zg_X0_15 C ha0 dX0_halve_168 ?_
  refine zr_iload C 5 dX0_halve_171 rfl ?_
  refine zr_iconst C (v := 4) dX0_halve_173 (by decide) ?_
  refine zr_iadd C dX0_halve_174 ?_
  refine zr_iload C 2 dX0_halve_175 rfl ?_
  refine zr_iast C (zkd0_2 ha0) h.1 dX0_halve_177 ?_
  have h := h.2
  refine zr_letM (fun M23 hM23 => ?_)
  have h := h M23 hM23
  refine zr_aload_n C 0 dX0_halve_178 rfl rfl ?_
  refine zg_X0_15 C ha0 dX0_halve_179 ?_
  refine zr_iload C 5 dX0_halve_182 rfl ?_
  refine zr_bipush C (v := 6) dX0_halve_184 (by decide) ?_
  refine zr_iadd C dX0_halve_186 ?_
  refine zr_iload C 1 dX0_halve_187 rfl ?_
  refine zr_iast C (zkd0_2 ha0) h.1 dX0_halve_189 ?_
  have h := h.2
  refine zr_letM (fun M24 hM24 => ?_)
  have h := h M24 hM24
  exact R _ _ _ h dX0_halve_190
/-! X4_side -/
set_option maxHeartbeats 4000000 in
set_option maxRecDepth 100000 in
theorem c_X4_side (l : Launch) (G : zG) (N : Nat) (a0 : Nat) (ha0 : zkd a0 = 0) (x1 : Int32) (a2 : Nat) (ha2 : zkd a2 = 0) (x3 : Int32) (x4 : Int32) (M : zMem) (Q : Int64 → zMem → Prop) (h : f_X4_side N a0 x1 a2 x3 x4 M Q) : zML l G yX4_side cX4_side 14 0 [zR G a0, .int x1, zR G a2, .int x3, .int x4] M Q := by
  refine zEL (by decide) (Nat.le_of_ble_eq_true rfl) (lv := [(0, zR G a0), (1, .int x1), (2, zR G a2), (3, .int x3), (4, .int x4)]) rfl (fun X C R => ?_)
  have C : zC G X cX4_side RX4 0 14 := C
  unfold f_X4_side at h
  refine zr_iload_n C 1 dX4_side_0 rfl rfl ?_
  refine zr_bipush C (v := 8) dX4_side_1 (by decide) ?_
  refine zr_imul C dX4_side_3 ?_
  refine zr_letI (fun v1 hv1 => ?_)
  have h := h v1 hv1
  refine zr_istore C [1, 3, 4, 5, 0] dX4_side_4 (by decide) rfl (lv' := [(0, zR G a0), (2, zR G a2), (3, .int x3), (4, .int x4), (5, .int v1)]) ?_
  refine zr_iload C 4 dX4_side_6 rfl ?_
  refine zr_bipush C (v := 8) dX4_side_8 (by decide) ?_
  refine zr_iadd C dX4_side_10 ?_
  refine zr_iconst C (v := 2) dX4_side_11 (by decide) ?_
  refine zr_isub C dX4_side_12 ?_
  refine zr_letI (fun v2 hv2 => ?_)
  have h := h v2 hv2
  refine zr_istore C [1, 2, 3, 4, 5, 0] dX4_side_13 (by decide) rfl (lv' := [(0, zR G a0), (2, zR G a2), (3, .int x3), (4, .int x4), (5, .int v1), (6, .int v2)]) ?_
  refine zr_iload_n C 2 dX4_side_15 rfl rfl ?_
  refine zr_bipush C (v := 8) dX4_side_16 (by decide) ?_
  refine zr_imul C dX4_side_18 ?_
  refine zr_iconst C (v := 2) dX4_side_19 (by decide) ?_
  refine zr_iload C 3 dX4_side_20 rfl ?_
  refine zr_imul C dX4_side_22 ?_
  refine zr_iadd C dX4_side_23 ?_
  refine zr_letI (fun v3 hv3 => ?_)
  have h := h v3 hv3
  refine zr_istore C [1, 2, 5, 6, 0] dX4_side_24 (by decide) rfl (lv' := [(0, zR G a0), (2, zR G a2), (5, .int v1), (6, .int v2), (7, .int v3)]) ?_
  refine zr_aload_n C 0 dX4_side_26 rfl rfl ?_
  refine zg_X4_15 C ha0 dX4_side_27 ?_
  refine zr_iload C 2 dX4_side_30 rfl ?_
  refine zr_iald C (zkd0_2 ha0) h.1 dX4_side_32 ?_
  have h := h.2
  refine zr_letI (fun v4 hv4 => ?_)
  have h := h v4 hv4
  refine zr_istore C [1, 2, 3, 4, 5, 0] dX4_side_33 (by decide) rfl (lv' := [(0, zR G a0), (2, zR G a2), (5, .int v1), (6, .int v2), (7, .int v3), (8, .int v4)]) ?_
  refine zr_aload_n C 0 dX4_side_35 rfl rfl ?_
  refine zg_X4_15 C ha0 dX4_side_36 ?_
  refine zr_iload C 2 dX4_side_39 rfl ?_
  refine zr_iconst C (v := 1) dX4_side_41 (by decide) ?_
  refine zr_iadd C dX4_side_42 ?_
  refine zr_iald C (zkd0_2 ha0) h.1 dX4_side_43 ?_
  have h := h.2
  refine zr_letI (fun v5 hv5 => ?_)
  have h := h v5 hv5
  refine zr_istore C [1, 2, 4, 5, 6, 0] dX4_side_44 (by decide) rfl (lv' := [(0, zR G a0), (2, zR G a2), (6, .int v2), (7, .int v3), (8, .int v4), (9, .int v5)]) ?_
  refine zr_aload_n C 0 dX4_side_46 rfl rfl ?_
  refine zg_X4_15 C ha0 dX4_side_47 ?_
  refine zr_iload C 2 dX4_side_50 rfl ?_
  refine zr_iald C (zkd0_2 ha0) h.1 dX4_side_52 ?_
  have h := h.2
  refine zr_iload C 4 dX4_side_53 rfl ?_
  refine zr_isub C dX4_side_55 ?_
  refine zr_i2l C dX4_side_56 ?_
  refine zr_letL (fun v6 hv6 => ?_)
  have h := h v6 hv6
  refine zr_lstore C [1, 2, 3, 4, 5, 6, 0] dX4_side_57 (by decide) rfl (lv' := [(0, zR G a0), (2, zR G a2), (6, .int v2), (7, .int v3), (8, .int v4), (9, .int v5), (10, .long v6)]) ?_
  refine zr_aload_n C 0 dX4_side_59 rfl rfl ?_
  refine zg_X4_15 C ha0 dX4_side_60 ?_
  refine zr_iload C 2 dX4_side_63 rfl ?_
  refine zr_iconst C (v := 1) dX4_side_65 (by decide) ?_
  refine zr_iadd C dX4_side_66 ?_
  refine zr_iald C (zkd0_2 ha0) h.1 dX4_side_67 ?_
  have h := h.2
  refine zr_iload C 5 dX4_side_68 rfl ?_
  refine zr_isub C dX4_side_70 ?_
  refine zr_i2l C dX4_side_71 ?_
  refine zr_letL (fun v7 hv7 => ?_)
  have h := h v7 hv7
  refine zr_lstore C [2, 4, 5, 6, 7, 0] dX4_side_72 (by decide) rfl (lv' := [(2, zR G a2), (7, .int v3), (8, .int v4), (9, .int v5), (10, .long v6), (12, .long v7)]) ?_
  refine zr_lload C 4 dX4_side_74 rfl ?_
  refine zr_aload_n C 0 dX4_side_76 rfl rfl ?_
  refine zg_X4_15 C ha2 dX4_side_77 ?_
  refine zr_iload C 1 dX4_side_80 rfl ?_
  refine zr_iconst C (v := 1) dX4_side_82 (by decide) ?_
  refine zr_iadd C dX4_side_83 ?_
  refine zr_iald C (zkd0_2 ha2) h.1 dX4_side_84 ?_
  have h := h.2
  refine zr_iload C 3 dX4_side_85 rfl ?_
  refine zr_isub C dX4_side_87 ?_
  refine zr_i2l C dX4_side_88 ?_
  refine zr_lmul C dX4_side_89 ?_
  refine zr_lload C 5 dX4_side_90 rfl ?_
  refine zr_aload_n C 0 dX4_side_92 rfl rfl ?_
  refine zg_X4_15 C ha2 dX4_side_93 ?_
  refine zr_iload C 1 dX4_side_96 rfl ?_
  refine zr_iald C (zkd0_2 ha2) h.1 dX4_side_98 ?_
  have h := h.2
  refine zr_iload C 2 dX4_side_99 rfl ?_
  refine zr_isub C dX4_side_101 ?_
  refine zr_i2l C dX4_side_102 ?_
  refine zr_lmul C dX4_side_103 ?_
  refine zr_lsub C dX4_side_104 ?_
  exact R _ _ _ _ h dX4_side_105
/-! X0_measureBand -/
set_option maxHeartbeats 4000000 in
set_option maxRecDepth 100000 in
theorem w_X0_measureBand_b16 {G : zG} {X : zX} (C : zC G X cX0_measureBand RX0 1 5) (N : Nat) (Q : zMem → Prop) (R : zRU G X cX0_measureBand Q) (a0 : Nat) (ha0 : zkd a0 = 0) (x1 : Int32) (k16 : Int32 → zMem → Prop) (hk16 : ∀ (z2 : Int32) (M : zMem), k16 z2 M → zV G X M [(0, zR G a0), (1, .int x1), (2, .int z2)] [] 16) (x2 : Int32) (M : zMem) (h : f_X0_measureBand_b16 N k16 a0 x1 x2 M Q) : zV G X M [(0, zR G a0), (1, .int x1), (2, .int x2)] [] 16 := by
  unfold f_X0_measureBand_b16 at h
  refine zr_iload_n C 2 dX0_measureBand_16 rfl rfl ?_
  refine zr_iconst C (v := 3) dX0_measureBand_17 (by decide) ?_
  refine zr_icmp_ge C 68 dX0_measureBand_18 (by decide) (fun c => ?_) (fun c => ?_)
  · have h := h.1 c
    exact R _ _ _ h dX0_measureBand_68
  · have h := h.2 c
    refine zr_aload_n C 0 dX0_measureBand_21 rfl rfl ?_
    refine zr_iload_n C 1 dX0_measureBand_22 rfl rfl ?_
    refine zr_aload_n C 0 dX0_measureBand_23 rfl rfl ?_
    refine zr_iload_n C 1 dX0_measureBand_24 rfl rfl ?_
    refine zr_iload_n C 2 dX0_measureBand_25 rfl rfl ?_
    refine zcL (zrunSN C (rest := []) (c_X4_side X.2.1 G N _ ha0 _ _ ha0 _ _ _ _ h) zk_X4_side znl_X0_69 (by decide) (by decide) rfl (Nat.le_of_ble_eq_true rfl) rfl dX0_measureBand_26) (fun r3 M4 h => ?_)
    refine zr_lstore_n C [1, 2, 3, 0] dX0_measureBand_29 rfl (by decide) rfl (lv' := [(0, zR G a0), (1, .int x1), (2, .int x2), (3, .long r3)]) ?_
    refine zr_aload_n C 0 dX0_measureBand_30 rfl rfl ?_
    refine zg_X0_21 C ha0 dX0_measureBand_31 ?_
    refine zr_iload_n C 1 dX0_measureBand_34 rfl rfl ?_
    refine zr_aload_n C 0 dX0_measureBand_35 rfl rfl ?_
    refine zg_X0_21 C ha0 dX0_measureBand_36 ?_
    refine zr_iload_n C 1 dX0_measureBand_39 rfl rfl ?_
    refine zr_lald C (zkd0_4 ha0) h.1 dX0_measureBand_40 ?_
    have h := h.2
    refine zr_lload_n C 3 dX0_measureBand_41 rfl rfl ?_
    refine zr_mminL C zlm_X0_75 zw2_mminL (by decide) (Nat.le_of_ble_eq_true rfl) dX0_measureBand_42 ?_
    refine zr_last C (zkd0_4 ha0) h.1 dX0_measureBand_45 ?_
    have h := h.2
    refine zr_letM (fun M5 hM5 => ?_)
    have h := h M5 hM5
    refine zr_aload_n C 0 dX0_measureBand_46 rfl rfl ?_
    refine zg_X0_25 C ha0 dX0_measureBand_47 ?_
    refine zr_iload_n C 1 dX0_measureBand_50 rfl rfl ?_
    refine zr_aload_n C 0 dX0_measureBand_51 rfl rfl ?_
    refine zg_X0_25 C ha0 dX0_measureBand_52 ?_
    refine zr_iload_n C 1 dX0_measureBand_55 rfl rfl ?_
    refine zr_lald C (zkd0_5 ha0) h.1 dX0_measureBand_56 ?_
    have h := h.2
    refine zr_lload_n C 3 dX0_measureBand_57 rfl rfl ?_
    refine zr_mmaxL C zlm_X0_78 zw2_mmaxL (by decide) (Nat.le_of_ble_eq_true rfl) dX0_measureBand_58 ?_
    refine zr_last C (zkd0_5 ha0) h.1 dX0_measureBand_61 ?_
    have h := h.2
    refine zr_letM (fun M6 hM6 => ?_)
    have h := h M6 hM6
    obtain ⟨v7, hv7⟩ : ∃ y : Int32, y = x2 + (1 : Int32) := ⟨_, rfl⟩
    have h := h v7 hv7
    refine zr_iinc C 2 [1, 2, 0] dX0_measureBand_62 rfl (by rw [hv7]; rfl) (by decide) rfl (lv' := [(0, zR G a0), (1, .int x1), (2, .int v7)]) ?_
    refine zr_goto C 16 dX0_measureBand_65 (by decide) ?_
    exact hk16 _ _ h
theorem w_X0_measureBand_l16 {G : zG} {X : zX} (C : zC G X cX0_measureBand RX0 1 5) (N : Nat) (Q : zMem → Prop) (R : zRU G X cX0_measureBand Q) (a0 : Nat) (ha0 : zkd a0 = 0) (x1 : Int32) : ∀ (n : Nat) (x2 : Int32) (M : zMem), f_X0_measureBand_l16 N a0 x1 Q n x2 M → zV G X M [(0, zR G a0), (1, .int x1), (2, .int x2)] [] 16 := by
  intro n
  induction n with
  | zero => intro x2 M h; exact h.elim
  | succ n ih =>
    intro x2 M h
    exact w_X0_measureBand_b16 C N Q R a0 ha0 x1  _ ih x2 M h
set_option maxHeartbeats 4000000 in
set_option maxRecDepth 100000 in
theorem c_X0_measureBand (l : Launch) (G : zG) (N : Nat) (a0 : Nat) (ha0 : zkd a0 = 0) (x1 : Int32) (M : zMem) (Q : zMem → Prop) (h : f_X0_measureBand N a0 x1 M Q) : zMU l G yX0_measureBand cX0_measureBand 5 1 [zR G a0, .int x1] M Q := by
  refine zEU (by decide) (Nat.le_of_ble_eq_true rfl) (lv := [(0, zR G a0), (1, .int x1)]) rfl (fun X C R => ?_)
  have C : zC G X cX0_measureBand RX0 1 5 := C
  unfold f_X0_measureBand at h
  refine zr_aload_n C 0 dX0_measureBand_0 rfl rfl ?_
  refine zg_X0_21 C ha0 dX0_measureBand_1 ?_
  refine zr_iload_n C 1 dX0_measureBand_4 rfl rfl ?_
  refine zr_lconst C (v := 0) dX0_measureBand_5 (by decide) ?_
  refine zr_last C (zkd0_4 ha0) h.1 dX0_measureBand_6 ?_
  have h := h.2
  refine zr_letM (fun M1 hM1 => ?_)
  have h := h M1 hM1
  refine zr_aload_n C 0 dX0_measureBand_7 rfl rfl ?_
  refine zg_X0_25 C ha0 dX0_measureBand_8 ?_
  refine zr_iload_n C 1 dX0_measureBand_11 rfl rfl ?_
  refine zr_lconst C (v := 0) dX0_measureBand_12 (by decide) ?_
  refine zr_last C (zkd0_5 ha0) h.1 dX0_measureBand_13 ?_
  have h := h.2
  refine zr_letM (fun M2 hM2 => ?_)
  have h := h M2 hM2
  refine zr_iconst C (v := 1) dX0_measureBand_14 (by decide) ?_
  refine zr_istore_n C [1, 2, 0] dX0_measureBand_15 rfl (by decide) rfl (lv' := [(0, zR G a0), (1, .int x1), (2, .int (1 : Int32))]) ?_
  exact w_X0_measureBand_l16 C N Q R _ ha0 _ N _ _ h
/-! X0_measureBox -/
set_option maxHeartbeats 4000000 in
set_option maxRecDepth 100000 in
theorem w_X0_measureBox_b14 {G : zG} {X : zX} (C : zC G X cX0_measureBox RX0 1 6) (N : Nat) (Q : zMem → Prop) (R : zRU G X cX0_measureBox Q) (a0 : Nat) (ha0 : zkd a0 = 0) (x1 : Int32) (x2 : Int32) (k14 : Int32 → Int32 → Int32 → zMem → Prop) (hk14 : ∀ (z3 : Int32) (z4 : Int32) (z5 : Int32) (M : zMem), k14 z3 z4 z5 M → zV G X M [(0, zR G a0), (1, .int x1), (2, .int x2), (3, .int z3), (4, .int z4), (5, .int z5)] [] 14) (x3 : Int32) (x4 : Int32) (x5 : Int32) (M : zMem) (h : f_X0_measureBox_b14 N k14 a0 x1 x2 x3 x4 x5 M Q) : zV G X M [(0, zR G a0), (1, .int x1), (2, .int x2), (3, .int x3), (4, .int x4), (5, .int x5)] [] 14 := by
  unfold f_X0_measureBox_b14 at h
  refine zr_iload C 5 dX0_measureBox_14 rfl ?_
  refine zr_iconst C (v := 4) dX0_measureBox_16 (by decide) ?_
  refine zr_icmp_ge C 54 dX0_measureBox_17 (by decide) (fun c => ?_) (fun c => ?_)
  · have h := h.1 c
    refine zr_aload_n C 0 dX0_measureBox_54 rfl rfl ?_
    refine zg_X0_18 C ha0 dX0_measureBox_55 ?_
    refine zr_iconst C (v := 4) dX0_measureBox_58 (by decide) ?_
    refine zr_iload_n C 1 dX0_measureBox_59 rfl rfl ?_
    refine zr_imul C dX0_measureBox_60 ?_
    refine zr_iconst C (v := 2) dX0_measureBox_61 (by decide) ?_
    refine zr_iload_n C 2 dX0_measureBox_62 rfl rfl ?_
    refine zr_imul C dX0_measureBox_63 ?_
    refine zr_iadd C dX0_measureBox_64 ?_
    refine zr_iload_n C 3 dX0_measureBox_65 rfl rfl ?_
    refine zr_iast C (zkd0_3 ha0) h.1 dX0_measureBox_66 ?_
    have h := h.2
    refine zr_letM (fun M3 hM3 => ?_)
    have h := h M3 hM3
    refine zr_aload_n C 0 dX0_measureBox_67 rfl rfl ?_
    refine zg_X0_18 C ha0 dX0_measureBox_68 ?_
    refine zr_iconst C (v := 4) dX0_measureBox_71 (by decide) ?_
    refine zr_iload_n C 1 dX0_measureBox_72 rfl rfl ?_
    refine zr_imul C dX0_measureBox_73 ?_
    refine zr_iconst C (v := 2) dX0_measureBox_74 (by decide) ?_
    refine zr_iload_n C 2 dX0_measureBox_75 rfl rfl ?_
    refine zr_imul C dX0_measureBox_76 ?_
    refine zr_iadd C dX0_measureBox_77 ?_
    refine zr_iconst C (v := 1) dX0_measureBox_78 (by decide) ?_
    refine zr_iadd C dX0_measureBox_79 ?_
    refine zr_iload C 4 dX0_measureBox_80 rfl ?_
    refine zr_iast C (zkd0_3 ha0) h.1 dX0_measureBox_82 ?_
    have h := h.2
    refine zr_letM (fun M4 hM4 => ?_)
    have h := h M4 hM4
    exact R _ _ _ h dX0_measureBox_83
  · have h := h.2 c
    refine zr_iload_n C 3 dX0_measureBox_20 rfl rfl ?_
    refine zr_aload_n C 0 dX0_measureBox_21 rfl rfl ?_
    refine zr_iload_n C 1 dX0_measureBox_22 rfl rfl ?_
    refine zr_iload C 5 dX0_measureBox_23 rfl ?_
    refine zr_iload_n C 2 dX0_measureBox_25 rfl rfl ?_
    refine zcI (zrunV C (rest := [.int x3]) (c_X0_at X.2.1 G N _ ha0 _ _ _ _ _ h) zk_X0_at zl_X0_56 (zRc_0 ha0) (by decide) (by decide) rfl (Nat.le_of_ble_eq_true rfl) rfl dX0_measureBox_26) (fun r5 M6 h => ?_)
    refine zr_mmin C zlm_X0_60 zw2_mmin (by decide) (Nat.le_of_ble_eq_true rfl) dX0_measureBox_29 ?_
    refine zr_letI (fun v7 hv7 => ?_)
    have h := h v7 hv7
    refine zr_istore_n C [1, 2, 3, 0, 4, 5] dX0_measureBox_32 rfl (by decide) rfl (lv' := [(0, zR G a0), (1, .int x1), (2, .int x2), (3, .int v7), (4, .int x4), (5, .int x5)]) ?_
    refine zr_iload C 4 dX0_measureBox_33 rfl ?_
    refine zr_aload_n C 0 dX0_measureBox_35 rfl rfl ?_
    refine zr_iload_n C 1 dX0_measureBox_36 rfl rfl ?_
    refine zr_iload C 5 dX0_measureBox_37 rfl ?_
    refine zr_iload_n C 2 dX0_measureBox_39 rfl rfl ?_
    refine zcI (zrunV C (rest := [.int x4]) (c_X0_at X.2.1 G N _ ha0 _ _ _ _ _ h) zk_X0_at zl_X0_56 (zRc_0 ha0) (by decide) (by decide) rfl (Nat.le_of_ble_eq_true rfl) rfl dX0_measureBox_40) (fun r8 M9 h => ?_)
    refine zr_mmax C zlm_X0_66 zw2_mmax (by decide) (Nat.le_of_ble_eq_true rfl) dX0_measureBox_43 ?_
    refine zr_letI (fun v10 hv10 => ?_)
    have h := h v10 hv10
    refine zr_istore C [1, 2, 3, 4, 0, 5] dX0_measureBox_46 (by decide) rfl (lv' := [(0, zR G a0), (1, .int x1), (2, .int x2), (3, .int v7), (4, .int v10), (5, .int x5)]) ?_
    obtain ⟨v11, hv11⟩ : ∃ y : Int32, y = x5 + (1 : Int32) := ⟨_, rfl⟩
    have h := h v11 hv11
    refine zr_iinc C 5 [1, 2, 3, 4, 5, 0] dX0_measureBox_48 rfl (by rw [hv11]; rfl) (by decide) rfl (lv' := [(0, zR G a0), (1, .int x1), (2, .int x2), (3, .int v7), (4, .int v10), (5, .int v11)]) ?_
    refine zr_goto C 14 dX0_measureBox_51 (by decide) ?_
    exact hk14 _ _ _ _ h
theorem w_X0_measureBox_l14 {G : zG} {X : zX} (C : zC G X cX0_measureBox RX0 1 6) (N : Nat) (Q : zMem → Prop) (R : zRU G X cX0_measureBox Q) (a0 : Nat) (ha0 : zkd a0 = 0) (x1 : Int32) (x2 : Int32) : ∀ (n : Nat) (x3 : Int32) (x4 : Int32) (x5 : Int32) (M : zMem), f_X0_measureBox_l14 N a0 x1 x2 Q n x3 x4 x5 M → zV G X M [(0, zR G a0), (1, .int x1), (2, .int x2), (3, .int x3), (4, .int x4), (5, .int x5)] [] 14 := by
  intro n
  induction n with
  | zero => intro x3 x4 x5 M h; exact h.elim
  | succ n ih =>
    intro x3 x4 x5 M h
    exact w_X0_measureBox_b14 C N Q R a0 ha0 x1 x2  _ ih x3 x4 x5 M h
set_option maxHeartbeats 4000000 in
set_option maxRecDepth 100000 in
theorem c_X0_measureBox (l : Launch) (G : zG) (N : Nat) (a0 : Nat) (ha0 : zkd a0 = 0) (x1 : Int32) (x2 : Int32) (M : zMem) (Q : zMem → Prop) (h : f_X0_measureBox N a0 x1 x2 M Q) : zMU l G yX0_measureBox cX0_measureBox 6 1 [zR G a0, .int x1, .int x2] M Q := by
  refine zEU (by decide) (Nat.le_of_ble_eq_true rfl) (lv := [(0, zR G a0), (1, .int x1), (2, .int x2)]) rfl (fun X C R => ?_)
  have C : zC G X cX0_measureBox RX0 1 6 := C
  unfold f_X0_measureBox at h
  refine zr_aload_n C 0 dX0_measureBox_0 rfl rfl ?_
  refine zr_iload_n C 1 dX0_measureBox_1 rfl rfl ?_
  refine zr_iconst C (v := 0) dX0_measureBox_2 (by decide) ?_
  refine zr_iload_n C 2 dX0_measureBox_3 rfl rfl ?_
  refine zcI (zrunV C (rest := []) (c_X0_at X.2.1 G N _ ha0 _ _ _ _ _ h) zk_X0_at zl_X0_56 (zRc_0 ha0) (by decide) (by decide) rfl (Nat.le_of_ble_eq_true rfl) rfl dX0_measureBox_4) (fun r1 M2 h => ?_)
  refine zr_istore_n C [1, 2, 3, 0] dX0_measureBox_7 rfl (by decide) rfl (lv' := [(0, zR G a0), (1, .int x1), (2, .int x2), (3, .int r1)]) ?_
  refine zr_iload_n C 3 dX0_measureBox_8 rfl rfl ?_
  refine zr_istore C [1, 2, 3, 4, 0] dX0_measureBox_9 (by decide) rfl (lv' := [(0, zR G a0), (1, .int x1), (2, .int x2), (3, .int r1), (4, .int r1)]) ?_
  refine zr_iconst C (v := 1) dX0_measureBox_11 (by decide) ?_
  refine zr_istore C [1, 2, 3, 4, 5, 0] dX0_measureBox_12 (by decide) rfl (lv' := [(0, zR G a0), (1, .int x1), (2, .int x2), (3, .int r1), (4, .int r1), (5, .int (1 : Int32))]) ?_
  exact w_X0_measureBox_l14 C N Q R _ ha0 _ _ N _ _ _ _ h
/-! X0_halveAll -/
set_option maxHeartbeats 4000000 in
set_option maxRecDepth 100000 in
theorem w_X0_halveAll_b60 {G : zG} {X : zX} (C : zC G X cX0_halveAll RX0 2 2) (N : Nat) (Q : zMem → Prop) (R : zRU G X cX0_halveAll Q) (a0 : Nat) (ha0 : zkd a0 = 0) (k60 : Int32 → zMem → Prop) (hk60 : ∀ (z1 : Int32) (M : zMem), k60 z1 M → zV G X M [(0, zR G a0), (1, .int z1)] [] 60) (x1 : Int32) (M : zMem) (h : f_X0_halveAll_b60 N k60 a0 x1 M Q) : zV G X M [(0, zR G a0), (1, .int x1)] [] 60 := by
  unfold f_X0_halveAll_b60 at h
  refine zr_iload_n C 1 dX0_halveAll_60 rfl rfl ?_
  refine zr_bipush C (v := 63) dX0_halveAll_61 (by decide) ?_
  refine zr_icmp_gt C 89 dX0_halveAll_63 (by decide) (fun c => ?_) (fun c => ?_)
  · have h := h.1 c
    exact R _ _ _ h dX0_halveAll_89
  · have h := h.2 c
    refine zr_aload_n C 0 dX0_halveAll_66 rfl rfl ?_
    refine zr_iload_n C 1 dX0_halveAll_67 rfl rfl ?_
    refine zr_iconst C (v := 0) dX0_halveAll_68 (by decide) ?_
    refine zcU (zrunV C (rest := []) (c_X0_measureBox X.2.1 G N _ ha0 _ _ _ _ h) zk_X0_measureBox zl_X0_49 (zRc_0 ha0) (by decide) (by decide) rfl (Nat.le_of_ble_eq_true rfl) rfl dX0_halveAll_69) (fun M2 h => ?_)
    refine zr_aload_n C 0 dX0_halveAll_72 rfl rfl ?_
    refine zr_iload_n C 1 dX0_halveAll_73 rfl rfl ?_
    refine zr_iconst C (v := 1) dX0_halveAll_74 (by decide) ?_
    refine zcU (zrunV C (rest := []) (c_X0_measureBox X.2.1 G N _ ha0 _ _ _ _ h) zk_X0_measureBox zl_X0_49 (zRc_0 ha0) (by decide) (by decide) rfl (Nat.le_of_ble_eq_true rfl) rfl dX0_halveAll_75) (fun M4 h => ?_)
    refine zr_aload_n C 0 dX0_halveAll_78 rfl rfl ?_
    refine zr_iload_n C 1 dX0_halveAll_79 rfl rfl ?_
    refine zcU (zrunV C (rest := []) (c_X0_measureBand X.2.1 G N _ ha0 _ _ _ h) zk_X0_measureBand zl_X0_52 (zRc_0 ha0) (by decide) (by decide) rfl (Nat.le_of_ble_eq_true rfl) rfl dX0_halveAll_80) (fun M6 h => ?_)
    obtain ⟨v7, hv7⟩ : ∃ y : Int32, y = x1 + (1 : Int32) := ⟨_, rfl⟩
    have h := h v7 hv7
    refine zr_iinc C 1 [1, 0] dX0_halveAll_83 rfl (by rw [hv7]; rfl) (by decide) rfl (lv' := [(0, zR G a0), (1, .int v7)]) ?_
    refine zr_goto C 60 dX0_halveAll_86 (by decide) ?_
    exact hk60 _ _ h
theorem w_X0_halveAll_l60 {G : zG} {X : zX} (C : zC G X cX0_halveAll RX0 2 2) (N : Nat) (Q : zMem → Prop) (R : zRU G X cX0_halveAll Q) (a0 : Nat) (ha0 : zkd a0 = 0) : ∀ (n : Nat) (x1 : Int32) (M : zMem), f_X0_halveAll_l60 N a0 Q n x1 M → zV G X M [(0, zR G a0), (1, .int x1)] [] 60 := by
  intro n
  induction n with
  | zero => intro x1 M h; exact h.elim
  | succ n ih =>
    intro x1 M h
    exact w_X0_halveAll_b60 C N Q R a0 ha0  _ ih x1 M h
set_option maxHeartbeats 4000000 in
set_option maxRecDepth 100000 in
theorem w_X0_halveAll_b34 {G : zG} {X : zX} (C : zC G X cX0_halveAll RX0 2 2) (N : Nat) (Q : zMem → Prop) (R : zRU G X cX0_halveAll Q) (a0 : Nat) (ha0 : zkd a0 = 0) (k34 : Int32 → zMem → Prop) (hk34 : ∀ (z1 : Int32) (M : zMem), k34 z1 M → zV G X M [(0, zR G a0), (1, .int z1)] [] 34) (x1 : Int32) (M : zMem) (h : f_X0_halveAll_b34 N k34 a0 x1 M Q) : zV G X M [(0, zR G a0), (1, .int x1)] [] 34 := by
  unfold f_X0_halveAll_b34 at h
  refine zr_iload_n C 1 dX0_halveAll_34 rfl rfl ?_
  refine zr_bipush C (v := 32) dX0_halveAll_35 (by decide) ?_
  refine zr_icmp_ge C 58 dX0_halveAll_37 (by decide) (fun c => ?_) (fun c => ?_)
  · have h := h.1 c
    refine zr_iconst C (v := 1) dX0_halveAll_58 (by decide) ?_
    refine zr_istore_n C [1, 0] dX0_halveAll_59 rfl (by decide) rfl (lv' := [(0, zR G a0), (1, .int (1 : Int32))]) ?_
    exact w_X0_halveAll_l60 C N Q R _ ha0 N _ _ h
  · have h := h.2 c
    refine zr_aload_n C 0 dX0_halveAll_40 rfl rfl ?_
    refine zr_iload_n C 1 dX0_halveAll_41 rfl rfl ?_
    refine zr_iconst C (v := 0) dX0_halveAll_42 (by decide) ?_
    refine zcU (zrunV C (rest := []) (c_X0_halve X.2.1 G N _ ha0 _ _ _ _ h) zk_X0_halve zl_X0_46 (zRc_0 ha0) (by decide) (by decide) rfl (Nat.le_of_ble_eq_true rfl) rfl dX0_halveAll_43) (fun M9 h => ?_)
    refine zr_aload_n C 0 dX0_halveAll_46 rfl rfl ?_
    refine zr_iload_n C 1 dX0_halveAll_47 rfl rfl ?_
    refine zr_iconst C (v := 1) dX0_halveAll_48 (by decide) ?_
    refine zcU (zrunV C (rest := []) (c_X0_halve X.2.1 G N _ ha0 _ _ _ _ h) zk_X0_halve zl_X0_46 (zRc_0 ha0) (by decide) (by decide) rfl (Nat.le_of_ble_eq_true rfl) rfl dX0_halveAll_49) (fun M11 h => ?_)
    obtain ⟨v12, hv12⟩ : ∃ y : Int32, y = x1 + (1 : Int32) := ⟨_, rfl⟩
    have h := h v12 hv12
    refine zr_iinc C 1 [1, 0] dX0_halveAll_52 rfl (by rw [hv12]; rfl) (by decide) rfl (lv' := [(0, zR G a0), (1, .int v12)]) ?_
    refine zr_goto C 34 dX0_halveAll_55 (by decide) ?_
    exact hk34 _ _ h
theorem w_X0_halveAll_l34 {G : zG} {X : zX} (C : zC G X cX0_halveAll RX0 2 2) (N : Nat) (Q : zMem → Prop) (R : zRU G X cX0_halveAll Q) (a0 : Nat) (ha0 : zkd a0 = 0) : ∀ (n : Nat) (x1 : Int32) (M : zMem), f_X0_halveAll_l34 N a0 Q n x1 M → zV G X M [(0, zR G a0), (1, .int x1)] [] 34 := by
  intro n
  induction n with
  | zero => intro x1 M h; exact h.elim
  | succ n ih =>
    intro x1 M h
    exact w_X0_halveAll_b34 C N Q R a0 ha0  _ ih x1 M h
set_option maxHeartbeats 4000000 in
set_option maxRecDepth 100000 in
theorem w_X0_halveAll_b2 {G : zG} {X : zX} (C : zC G X cX0_halveAll RX0 2 2) (N : Nat) (Q : zMem → Prop) (R : zRU G X cX0_halveAll Q) (a0 : Nat) (ha0 : zkd a0 = 0) (k2 : Int32 → zMem → Prop) (hk2 : ∀ (z1 : Int32) (M : zMem), k2 z1 M → zV G X M [(0, zR G a0), (1, .int z1)] [] 2) (x1 : Int32) (M : zMem) (h : f_X0_halveAll_b2 N k2 a0 x1 M Q) : zV G X M [(0, zR G a0), (1, .int x1)] [] 2 := by
  unfold f_X0_halveAll_b2 at h
  refine zr_iload_n C 1 dX0_halveAll_2 rfl rfl ?_
  refine zr_bipush C (v := 8) dX0_halveAll_3 (by decide) ?_
  refine zr_icmp_ge C 32 dX0_halveAll_5 (by decide) (fun c => ?_) (fun c => ?_)
  · have h := h.1 c
    refine zr_iconst C (v := 1) dX0_halveAll_32 (by decide) ?_
    refine zr_istore_n C [1, 0] dX0_halveAll_33 rfl (by decide) rfl (lv' := [(0, zR G a0), (1, .int (1 : Int32))]) ?_
    exact w_X0_halveAll_l34 C N Q R _ ha0 N _ _ h
  · have h := h.2 c
    refine zr_aload_n C 0 dX0_halveAll_8 rfl rfl ?_
    refine zg_X0_15 C ha0 dX0_halveAll_9 ?_
    refine zr_bipush C (v := 8) dX0_halveAll_12 (by decide) ?_
    refine zr_iload_n C 1 dX0_halveAll_14 rfl rfl ?_
    refine zr_iadd C dX0_halveAll_15 ?_
    refine zr_aload_n C 0 dX0_halveAll_16 rfl rfl ?_
    refine zg_X0_9 C ha0 dX0_halveAll_17 ?_
    refine zr_iload_n C 1 dX0_halveAll_20 rfl rfl ?_
    refine zr_iald C (zkd0_1 ha0) h.1 dX0_halveAll_21 ?_
    have h := h.2
    refine zr_ldc C zkc_X0_45 dX0_halveAll_22 ?_
    refine zr_imul C dX0_halveAll_24 ?_
    refine zr_iast C (zkd0_2 ha0) h.1 dX0_halveAll_25 ?_
    have h := h.2
    refine zr_letM (fun M13 hM13 => ?_)
    have h := h M13 hM13
    obtain ⟨v14, hv14⟩ : ∃ y : Int32, y = x1 + (1 : Int32) := ⟨_, rfl⟩
    have h := h v14 hv14
    refine zr_iinc C 1 [1, 0] dX0_halveAll_26 rfl (by rw [hv14]; rfl) (by decide) rfl (lv' := [(0, zR G a0), (1, .int v14)]) ?_
    refine zr_goto C 2 dX0_halveAll_29 (by decide) ?_
    exact hk2 _ _ h
theorem w_X0_halveAll_l2 {G : zG} {X : zX} (C : zC G X cX0_halveAll RX0 2 2) (N : Nat) (Q : zMem → Prop) (R : zRU G X cX0_halveAll Q) (a0 : Nat) (ha0 : zkd a0 = 0) : ∀ (n : Nat) (x1 : Int32) (M : zMem), f_X0_halveAll_l2 N a0 Q n x1 M → zV G X M [(0, zR G a0), (1, .int x1)] [] 2 := by
  intro n
  induction n with
  | zero => intro x1 M h; exact h.elim
  | succ n ih =>
    intro x1 M h
    exact w_X0_halveAll_b2 C N Q R a0 ha0  _ ih x1 M h
set_option maxHeartbeats 4000000 in
set_option maxRecDepth 100000 in
theorem c_X0_halveAll (l : Launch) (G : zG) (N : Nat) (a0 : Nat) (ha0 : zkd a0 = 0) (M : zMem) (Q : zMem → Prop) (h : f_X0_halveAll N a0 M Q) : zMU l G yX0_halveAll cX0_halveAll 2 2 [zR G a0] M Q := by
  refine zEU (by decide) (Nat.le_of_ble_eq_true rfl) (lv := [(0, zR G a0)]) rfl (fun X C R => ?_)
  have C : zC G X cX0_halveAll RX0 2 2 := C
  unfold f_X0_halveAll at h
  refine zr_iconst C (v := 0) dX0_halveAll_0 (by decide) ?_
  refine zr_istore_n C [1, 0] dX0_halveAll_1 rfl (by decide) rfl (lv' := [(0, zR G a0), (1, .int (0 : Int32))]) ?_
  exact w_X0_halveAll_l2 C N Q R _ ha0 N _ _ h
/-! X0_takes -/
set_option maxHeartbeats 4000000 in
set_option maxRecDepth 100000 in
theorem c_X0_takes (l : Launch) (G : zG) (N : Nat) (a0 : Nat) (ha0 : zkd a0 = 0) (a1 : Nat) (ha1 : zkd a1 = 8) (x2 : Int32) (M : zMem) (Q : zMem → Prop) (h : f_X0_takes N a0 a1 x2 M Q) : zMU l G yX0_takes cX0_takes 3 3 [zR G a0, zR G a1, .int x2] M Q := by
  refine zEU (by decide) (Nat.le_of_ble_eq_true rfl) (lv := [(0, zR G a0), (1, zR G a1), (2, .int x2)]) rfl (fun X C R => ?_)
  have C : zC G X cX0_takes RX0 3 3 := C
  unfold f_X0_takes at h
  refine zr_aload_n C 1 dX0_takes_0 rfl rfl ?_
  refine zr_iload_n C 2 dX0_takes_1 rfl rfl ?_
  refine zr_aload_n C 0 dX0_takes_2 rfl rfl ?_
  refine zg_X0_9 C ha0 dX0_takes_3 ?_
  refine zr_iconst C (v := 0) dX0_takes_6 (by decide) ?_
  refine zr_bipush C (v := 8) dX0_takes_7 (by decide) ?_
  refine zr_copy C ⟨ha1, rfl⟩ (zkd0_1 ha0) zlm_X0_28 zw2_copy (by decide) (Nat.le_of_ble_eq_true rfl) h.1 h.2.1 h.2.2.1 h.2.2.2.1 h.2.2.2.2.1 dX0_takes_9 ?_
  have h := h.2.2.2.2.2
  refine zr_letM (fun M1 hM1 => ?_)
  have h := h M1 hM1
  refine zr_aload_n C 0 dX0_takes_12 rfl rfl ?_
  refine zcU (zrunV C (rest := []) (c_X0_halveAll X.2.1 G N _ ha0 _ _ h) zk_X0_halveAll zl_X0_34 (zRc_0 ha0) (by decide) (by decide) rfl (Nat.le_of_ble_eq_true rfl) rfl dX0_takes_13) (fun M3 h => ?_)
  exact R _ _ _ h dX0_takes_16
/-! X7_isCoordinate -/
set_option maxHeartbeats 4000000 in
set_option maxRecDepth 100000 in
theorem c_X7_isCoordinate (l : Launch) (G : zG) (N : Nat) (x0 : Int64) (M : zMem) (Q : Int32 → zMem → Prop) (h : f_X7_isCoordinate N x0 M Q) : zMI l G yX7_isCoordinate cX7_isCoordinate 2 .boolean 0 [.long x0] M Q := by
  refine zEZ (by decide) (Nat.le_of_ble_eq_true rfl) (lv := [(0, .long x0)]) rfl (fun X C R => ?_)
  have C : zC G X cX7_isCoordinate RX7 0 2 := C
  unfold f_X7_isCoordinate at h
  refine zr_lload_n C 0 dX7_isCoordinate_0 rfl rfl ?_
  refine zr_ldc2 C zkc_X7_238 dX7_isCoordinate_1 ?_
  refine zr_lcmp_lt C 20 dX7_isCoordinate_4 dX7_isCoordinate_5 (by decide) (fun c => ?_) (fun c => ?_)
  · have h := h.1 c
    refine zr_iconst C (v := 0) dX7_isCoordinate_20 (by decide) ?_
    exact R _ _ _ _ zb_0.1 h dX7_isCoordinate_21
  · have h := h.2 c
    refine zr_lload_n C 0 dX7_isCoordinate_8 rfl rfl ?_
    refine zr_ldc2 C zkc_X7_240 dX7_isCoordinate_9 ?_
    refine zr_lcmp_gt C 20 dX7_isCoordinate_12 dX7_isCoordinate_13 (by decide) (fun c => ?_) (fun c => ?_)
    · have h := h.1 c
      refine zr_iconst C (v := 0) dX7_isCoordinate_20 (by decide) ?_
      exact R _ _ _ _ zb_0.1 h dX7_isCoordinate_21
    · have h := h.2 c
      refine zr_iconst C (v := 1) dX7_isCoordinate_16 (by decide) ?_
      refine zr_goto C 21 dX7_isCoordinate_17 (by decide) ?_
      exact R _ _ _ _ zb_1.1 h dX7_isCoordinate_21
/-! X0_canShift -/
set_option maxHeartbeats 4000000 in
set_option maxRecDepth 100000 in
theorem w_X0_canShift_b2 {G : zG} {X : zX} (C : zC G X cX0_canShift RX0 1 4) (N : Nat) (Q : Int32 → zMem → Prop) (R : zRZ G X cX0_canShift Q) (a0 : Nat) (ha0 : zkd a0 = 0) (x1 : Int32) (x2 : Int32) (k2 : Int32 → zMem → Prop) (hk2 : ∀ (z3 : Int32) (M : zMem), k2 z3 M → zV G X M [(0, zR G a0), (1, .int x1), (2, .int x2), (3, .int z3)] [] 2) (x3 : Int32) (M : zMem) (h : f_X0_canShift_b2 N k2 a0 x1 x2 x3 M Q) : zV G X M [(0, zR G a0), (1, .int x1), (2, .int x2), (3, .int x3)] [] 2 := by
  unfold f_X0_canShift_b2 at h
  refine zr_iload_n C 3 dX0_canShift_2 rfl rfl ?_
  refine zr_iconst C (v := 4) dX0_canShift_3 (by decide) ?_
  refine zr_icmp_ge C 53 dX0_canShift_4 (by decide) (fun c => ?_) (fun c => ?_)
  · have h := h.1 c
    refine zr_iconst C (v := 1) dX0_canShift_53 (by decide) ?_
    exact R _ _ _ _ zb_1.1 h dX0_canShift_54
  · have h := h.2 c
    refine zr_aload_n C 0 dX0_canShift_7 rfl rfl ?_
    refine zg_X0_9 C ha0 dX0_canShift_8 ?_
    refine zr_iconst C (v := 2) dX0_canShift_11 (by decide) ?_
    refine zr_iload_n C 3 dX0_canShift_12 rfl rfl ?_
    refine zr_imul C dX0_canShift_13 ?_
    refine zr_iald C (zkd0_1 ha0) h.1 dX0_canShift_14 ?_
    have h := h.2
    refine zr_i2l C dX0_canShift_15 ?_
    refine zr_iload_n C 1 dX0_canShift_16 rfl rfl ?_
    refine zr_i2l C dX0_canShift_17 ?_
    refine zr_ladd C dX0_canShift_18 ?_
    refine zcI (zrunSN C (rest := []) (c_X7_isCoordinate X.2.1 G N _ _ _ h) zk_X7_isCoordinate znl_X0_37 (by decide) (by decide) rfl (Nat.le_of_ble_eq_true rfl) rfl dX0_canShift_19) (fun r1 M2 h => ?_)
    refine zr_if_eq C 45 dX0_canShift_22 (by decide) (fun c => ?_) (fun c => ?_)
    · have h := h.1 c
      refine zr_iconst C (v := 0) dX0_canShift_45 (by decide) ?_
      exact R _ _ _ _ zb_0.1 h dX0_canShift_46
    · have h := h.2 c
      refine zr_aload_n C 0 dX0_canShift_25 rfl rfl ?_
      refine zg_X0_9 C ha0 dX0_canShift_26 ?_
      refine zr_iconst C (v := 2) dX0_canShift_29 (by decide) ?_
      refine zr_iload_n C 3 dX0_canShift_30 rfl rfl ?_
      refine zr_imul C dX0_canShift_31 ?_
      refine zr_iconst C (v := 1) dX0_canShift_32 (by decide) ?_
      refine zr_iadd C dX0_canShift_33 ?_
      refine zr_iald C (zkd0_1 ha0) h.1 dX0_canShift_34 ?_
      have h := h.2
      refine zr_i2l C dX0_canShift_35 ?_
      refine zr_iload_n C 2 dX0_canShift_36 rfl rfl ?_
      refine zr_i2l C dX0_canShift_37 ?_
      refine zr_ladd C dX0_canShift_38 ?_
      refine zcI (zrunSN C (rest := []) (c_X7_isCoordinate X.2.1 G N _ _ _ h) zk_X7_isCoordinate znl_X0_37 (by decide) (by decide) rfl (Nat.le_of_ble_eq_true rfl) rfl dX0_canShift_39) (fun r3 M4 h => ?_)
      refine zr_if_ne C 47 dX0_canShift_42 (by decide) (fun c => ?_) (fun c => ?_)
      · have h := h.1 c
        obtain ⟨v5, hv5⟩ : ∃ y : Int32, y = x3 + (1 : Int32) := ⟨_, rfl⟩
        have h := h v5 hv5
        refine zr_iinc C 3 [1, 2, 3, 0] dX0_canShift_47 rfl (by rw [hv5]; rfl) (by decide) rfl (lv' := [(0, zR G a0), (1, .int x1), (2, .int x2), (3, .int v5)]) ?_
        refine zr_goto C 2 dX0_canShift_50 (by decide) ?_
        exact hk2 _ _ h
      · have h := h.2 c
        refine zr_iconst C (v := 0) dX0_canShift_45 (by decide) ?_
        exact R _ _ _ _ zb_0.1 h dX0_canShift_46
theorem w_X0_canShift_l2 {G : zG} {X : zX} (C : zC G X cX0_canShift RX0 1 4) (N : Nat) (Q : Int32 → zMem → Prop) (R : zRZ G X cX0_canShift Q) (a0 : Nat) (ha0 : zkd a0 = 0) (x1 : Int32) (x2 : Int32) : ∀ (n : Nat) (x3 : Int32) (M : zMem), f_X0_canShift_l2 N a0 x1 x2 Q n x3 M → zV G X M [(0, zR G a0), (1, .int x1), (2, .int x2), (3, .int x3)] [] 2 := by
  intro n
  induction n with
  | zero => intro x3 M h; exact h.elim
  | succ n ih =>
    intro x3 M h
    exact w_X0_canShift_b2 C N Q R a0 ha0 x1 x2  _ ih x3 M h
set_option maxHeartbeats 4000000 in
set_option maxRecDepth 100000 in
theorem c_X0_canShift (l : Launch) (G : zG) (N : Nat) (a0 : Nat) (ha0 : zkd a0 = 0) (x1 : Int32) (x2 : Int32) (M : zMem) (Q : Int32 → zMem → Prop) (h : f_X0_canShift N a0 x1 x2 M Q) : zMI l G yX0_canShift cX0_canShift 4 .boolean 1 [zR G a0, .int x1, .int x2] M Q := by
  refine zEZ (by decide) (Nat.le_of_ble_eq_true rfl) (lv := [(0, zR G a0), (1, .int x1), (2, .int x2)]) rfl (fun X C R => ?_)
  have C : zC G X cX0_canShift RX0 1 4 := C
  unfold f_X0_canShift at h
  refine zr_iconst C (v := 0) dX0_canShift_0 (by decide) ?_
  refine zr_istore_n C [1, 2, 3, 0] dX0_canShift_1 rfl (by decide) rfl (lv' := [(0, zR G a0), (1, .int x1), (2, .int x2), (3, .int (0 : Int32))]) ?_
  exact w_X0_canShift_l2 C N Q R _ ha0 _ _ N _ _ h
/-! X0_shiftAll -/
set_option maxHeartbeats 4000000 in
set_option maxRecDepth 100000 in
theorem w_X0_shiftAll_b2 {G : zG} {X : zX} (C : zC G X cX0_shiftAll RX0 3 4) (N : Nat) (Q : zMem → Prop) (R : zRU G X cX0_shiftAll Q) (a0 : Nat) (ha0 : zkd a0 = 0) (x1 : Int32) (x2 : Int32) (k2 : Int32 → zMem → Prop) (hk2 : ∀ (z3 : Int32) (M : zMem), k2 z3 M → zV G X M [(0, zR G a0), (1, .int x1), (2, .int x2), (3, .int z3)] [] 2) (x3 : Int32) (M : zMem) (h : f_X0_shiftAll_b2 N k2 a0 x1 x2 x3 M Q) : zV G X M [(0, zR G a0), (1, .int x1), (2, .int x2), (3, .int x3)] [] 2 := by
  unfold f_X0_shiftAll_b2 at h
  refine zr_iload_n C 3 dX0_shiftAll_2 rfl rfl ?_
  refine zr_iconst C (v := 4) dX0_shiftAll_3 (by decide) ?_
  refine zr_icmp_ge C 39 dX0_shiftAll_4 (by decide) (fun c => ?_) (fun c => ?_)
  · have h := h.1 c
    refine zr_aload_n C 0 dX0_shiftAll_39 rfl rfl ?_
    refine zcU (zrunV C (rest := []) (c_X0_halveAll X.2.1 G N _ ha0 _ _ h) zk_X0_halveAll zl_X0_34 (zRc_0 ha0) (by decide) (by decide) rfl (Nat.le_of_ble_eq_true rfl) rfl dX0_shiftAll_40) (fun M2 h => ?_)
    exact R _ _ _ h dX0_shiftAll_43
  · have h := h.2 c
    refine zr_aload_n C 0 dX0_shiftAll_7 rfl rfl ?_
    refine zg_X0_9 C ha0 dX0_shiftAll_8 ?_
    refine zr_iconst C (v := 2) dX0_shiftAll_11 (by decide) ?_
    refine zr_iload_n C 3 dX0_shiftAll_12 rfl rfl ?_
    refine zr_imul C dX0_shiftAll_13 ?_
    refine zr_dup2 C rfl rfl dX0_shiftAll_14 ?_
    refine zr_iald C (zkd0_1 ha0) h.1 dX0_shiftAll_15 ?_
    have h := h.2
    refine zr_iload_n C 1 dX0_shiftAll_16 rfl rfl ?_
    refine zr_iadd C dX0_shiftAll_17 ?_
    refine zr_iast C (zkd0_1 ha0) h.1 dX0_shiftAll_18 ?_
    have h := h.2
    refine zr_letM (fun M3 hM3 => ?_)
    have h := h M3 hM3
    refine zr_aload_n C 0 dX0_shiftAll_19 rfl rfl ?_
    refine zg_X0_9 C ha0 dX0_shiftAll_20 ?_
    refine zr_iconst C (v := 2) dX0_shiftAll_23 (by decide) ?_
    refine zr_iload_n C 3 dX0_shiftAll_24 rfl rfl ?_
    refine zr_imul C dX0_shiftAll_25 ?_
    refine zr_iconst C (v := 1) dX0_shiftAll_26 (by decide) ?_
    refine zr_iadd C dX0_shiftAll_27 ?_
    refine zr_dup2 C rfl rfl dX0_shiftAll_28 ?_
    refine zr_iald C (zkd0_1 ha0) h.1 dX0_shiftAll_29 ?_
    have h := h.2
    refine zr_iload_n C 2 dX0_shiftAll_30 rfl rfl ?_
    refine zr_iadd C dX0_shiftAll_31 ?_
    refine zr_iast C (zkd0_1 ha0) h.1 dX0_shiftAll_32 ?_
    have h := h.2
    refine zr_letM (fun M4 hM4 => ?_)
    have h := h M4 hM4
    obtain ⟨v5, hv5⟩ : ∃ y : Int32, y = x3 + (1 : Int32) := ⟨_, rfl⟩
    have h := h v5 hv5
    refine zr_iinc C 3 [1, 2, 3, 0] dX0_shiftAll_33 rfl (by rw [hv5]; rfl) (by decide) rfl (lv' := [(0, zR G a0), (1, .int x1), (2, .int x2), (3, .int v5)]) ?_
    refine zr_goto C 2 dX0_shiftAll_36 (by decide) ?_
    exact hk2 _ _ h
theorem w_X0_shiftAll_l2 {G : zG} {X : zX} (C : zC G X cX0_shiftAll RX0 3 4) (N : Nat) (Q : zMem → Prop) (R : zRU G X cX0_shiftAll Q) (a0 : Nat) (ha0 : zkd a0 = 0) (x1 : Int32) (x2 : Int32) : ∀ (n : Nat) (x3 : Int32) (M : zMem), f_X0_shiftAll_l2 N a0 x1 x2 Q n x3 M → zV G X M [(0, zR G a0), (1, .int x1), (2, .int x2), (3, .int x3)] [] 2 := by
  intro n
  induction n with
  | zero => intro x3 M h; exact h.elim
  | succ n ih =>
    intro x3 M h
    exact w_X0_shiftAll_b2 C N Q R a0 ha0 x1 x2  _ ih x3 M h
set_option maxHeartbeats 4000000 in
set_option maxRecDepth 100000 in
theorem c_X0_shiftAll (l : Launch) (G : zG) (N : Nat) (a0 : Nat) (ha0 : zkd a0 = 0) (x1 : Int32) (x2 : Int32) (M : zMem) (Q : zMem → Prop) (h : f_X0_shiftAll N a0 x1 x2 M Q) : zMU l G yX0_shiftAll cX0_shiftAll 4 3 [zR G a0, .int x1, .int x2] M Q := by
  refine zEU (by decide) (Nat.le_of_ble_eq_true rfl) (lv := [(0, zR G a0), (1, .int x1), (2, .int x2)]) rfl (fun X C R => ?_)
  have C : zC G X cX0_shiftAll RX0 3 4 := C
  unfold f_X0_shiftAll at h
  refine zr_iconst C (v := 0) dX0_shiftAll_0 (by decide) ?_
  refine zr_istore_n C [1, 2, 3, 0] dX0_shiftAll_1 rfl (by decide) rfl (lv' := [(0, zR G a0), (1, .int x1), (2, .int x2), (3, .int (0 : Int32))]) ?_
  exact w_X0_shiftAll_l2 C N Q R _ ha0 _ _ N _ _ h
/-! X0_swap -/
set_option maxHeartbeats 4000000 in
set_option maxRecDepth 100000 in
theorem c_X0_swap (l : Launch) (G : zG) (N : Nat) (a0 : Nat) (ha0 : zkd a0 = 0) (x1 : Int32) (x2 : Int32) (M : zMem) (Q : zMem → Prop) (h : f_X0_swap N a0 x1 x2 M Q) : zMU l G yX0_swap cX0_swap 4 0 [zR G a0, .int x1, .int x2] M Q := by
  refine zEU (by decide) (Nat.le_of_ble_eq_true rfl) (lv := [(0, zR G a0), (1, .int x1), (2, .int x2)]) rfl (fun X C R => ?_)
  have C : zC G X cX0_swap RX0 0 4 := C
  unfold f_X0_swap at h
  refine zr_aload_n C 0 dX0_swap_0 rfl rfl ?_
  refine zg_X0_9 C ha0 dX0_swap_1 ?_
  refine zr_iload_n C 1 dX0_swap_4 rfl rfl ?_
  refine zr_iald C (zkd0_1 ha0) h.1 dX0_swap_5 ?_
  have h := h.2
  refine zr_letI (fun v1 hv1 => ?_)
  have h := h v1 hv1
  refine zr_istore_n C [1, 2, 3, 0] dX0_swap_6 rfl (by decide) rfl (lv' := [(0, zR G a0), (1, .int x1), (2, .int x2), (3, .int v1)]) ?_
  refine zr_aload_n C 0 dX0_swap_7 rfl rfl ?_
  refine zg_X0_9 C ha0 dX0_swap_8 ?_
  refine zr_iload_n C 1 dX0_swap_11 rfl rfl ?_
  refine zr_aload_n C 0 dX0_swap_12 rfl rfl ?_
  refine zg_X0_9 C ha0 dX0_swap_13 ?_
  refine zr_iload_n C 2 dX0_swap_16 rfl rfl ?_
  refine zr_iald C (zkd0_1 ha0) h.1 dX0_swap_17 ?_
  have h := h.2
  refine zr_iast C (zkd0_1 ha0) h.1 dX0_swap_18 ?_
  have h := h.2
  refine zr_letM (fun M2 hM2 => ?_)
  have h := h M2 hM2
  refine zr_aload_n C 0 dX0_swap_19 rfl rfl ?_
  refine zg_X0_9 C ha0 dX0_swap_20 ?_
  refine zr_iload_n C 2 dX0_swap_23 rfl rfl ?_
  refine zr_iload_n C 3 dX0_swap_24 rfl rfl ?_
  refine zr_iast C (zkd0_1 ha0) h.1 dX0_swap_25 ?_
  have h := h.2
  refine zr_letM (fun M3 hM3 => ?_)
  have h := h M3 hM3
  exact R _ _ _ h dX0_swap_26
/-! X0_turnRound -/
set_option maxHeartbeats 4000000 in
set_option maxRecDepth 100000 in
theorem w_X0_turnRound_b2 {G : zG} {X : zX} (C : zC G X cX0_turnRound RX0 3 2) (N : Nat) (Q : zMem → Prop) (R : zRU G X cX0_turnRound Q) (a0 : Nat) (ha0 : zkd a0 = 0) (k2 : Int32 → zMem → Prop) (hk2 : ∀ (z1 : Int32) (M : zMem), k2 z1 M → zV G X M [(0, zR G a0), (1, .int z1)] [] 2) (x1 : Int32) (M : zMem) (h : f_X0_turnRound_b2 N k2 a0 x1 M Q) : zV G X M [(0, zR G a0), (1, .int x1)] [] 2 := by
  unfold f_X0_turnRound_b2 at h
  refine zr_iload_n C 1 dX0_turnRound_2 rfl rfl ?_
  refine zr_iconst C (v := 2) dX0_turnRound_3 (by decide) ?_
  refine zr_icmp_ge C 41 dX0_turnRound_4 (by decide) (fun c => ?_) (fun c => ?_)
  · have h := h.1 c
    refine zr_aload_n C 0 dX0_turnRound_41 rfl rfl ?_
    refine zcU (zrunV C (rest := []) (c_X0_halveAll X.2.1 G N _ ha0 _ _ h) zk_X0_halveAll zl_X0_34 (zRc_0 ha0) (by decide) (by decide) rfl (Nat.le_of_ble_eq_true rfl) rfl dX0_turnRound_42) (fun M2 h => ?_)
    exact R _ _ _ h dX0_turnRound_45
  · have h := h.2 c
    refine zr_aload_n C 0 dX0_turnRound_7 rfl rfl ?_
    refine zr_iconst C (v := 2) dX0_turnRound_8 (by decide) ?_
    refine zr_iload_n C 1 dX0_turnRound_9 rfl rfl ?_
    refine zr_imul C dX0_turnRound_10 ?_
    refine zr_bipush C (v := 6) dX0_turnRound_11 (by decide) ?_
    refine zr_iconst C (v := 2) dX0_turnRound_13 (by decide) ?_
    refine zr_iload_n C 1 dX0_turnRound_14 rfl rfl ?_
    refine zr_imul C dX0_turnRound_15 ?_
    refine zr_isub C dX0_turnRound_16 ?_
    refine zcU (zrunV C (rest := []) (c_X0_swap X.2.1 G N _ ha0 _ _ _ _ h) zk_X0_swap zl_X0_41 (zRc_0 ha0) (by decide) (by decide) rfl (Nat.le_of_ble_eq_true rfl) rfl dX0_turnRound_17) (fun M4 h => ?_)
    refine zr_aload_n C 0 dX0_turnRound_20 rfl rfl ?_
    refine zr_iconst C (v := 2) dX0_turnRound_21 (by decide) ?_
    refine zr_iload_n C 1 dX0_turnRound_22 rfl rfl ?_
    refine zr_imul C dX0_turnRound_23 ?_
    refine zr_iconst C (v := 1) dX0_turnRound_24 (by decide) ?_
    refine zr_iadd C dX0_turnRound_25 ?_
    refine zr_bipush C (v := 7) dX0_turnRound_26 (by decide) ?_
    refine zr_iconst C (v := 2) dX0_turnRound_28 (by decide) ?_
    refine zr_iload_n C 1 dX0_turnRound_29 rfl rfl ?_
    refine zr_imul C dX0_turnRound_30 ?_
    refine zr_isub C dX0_turnRound_31 ?_
    refine zcU (zrunV C (rest := []) (c_X0_swap X.2.1 G N _ ha0 _ _ _ _ h) zk_X0_swap zl_X0_41 (zRc_0 ha0) (by decide) (by decide) rfl (Nat.le_of_ble_eq_true rfl) rfl dX0_turnRound_32) (fun M6 h => ?_)
    obtain ⟨v7, hv7⟩ : ∃ y : Int32, y = x1 + (1 : Int32) := ⟨_, rfl⟩
    have h := h v7 hv7
    refine zr_iinc C 1 [1, 0] dX0_turnRound_35 rfl (by rw [hv7]; rfl) (by decide) rfl (lv' := [(0, zR G a0), (1, .int v7)]) ?_
    refine zr_goto C 2 dX0_turnRound_38 (by decide) ?_
    exact hk2 _ _ h
theorem w_X0_turnRound_l2 {G : zG} {X : zX} (C : zC G X cX0_turnRound RX0 3 2) (N : Nat) (Q : zMem → Prop) (R : zRU G X cX0_turnRound Q) (a0 : Nat) (ha0 : zkd a0 = 0) : ∀ (n : Nat) (x1 : Int32) (M : zMem), f_X0_turnRound_l2 N a0 Q n x1 M → zV G X M [(0, zR G a0), (1, .int x1)] [] 2 := by
  intro n
  induction n with
  | zero => intro x1 M h; exact h.elim
  | succ n ih =>
    intro x1 M h
    exact w_X0_turnRound_b2 C N Q R a0 ha0  _ ih x1 M h
set_option maxHeartbeats 4000000 in
set_option maxRecDepth 100000 in
theorem c_X0_turnRound (l : Launch) (G : zG) (N : Nat) (a0 : Nat) (ha0 : zkd a0 = 0) (M : zMem) (Q : zMem → Prop) (h : f_X0_turnRound N a0 M Q) : zMU l G yX0_turnRound cX0_turnRound 2 3 [zR G a0] M Q := by
  refine zEU (by decide) (Nat.le_of_ble_eq_true rfl) (lv := [(0, zR G a0)]) rfl (fun X C R => ?_)
  have C : zC G X cX0_turnRound RX0 3 2 := C
  unfold f_X0_turnRound at h
  refine zr_iconst C (v := 0) dX0_turnRound_0 (by decide) ?_
  refine zr_istore_n C [1, 0] dX0_turnRound_1 rfl (by decide) rfl (lv' := [(0, zR G a0), (1, .int (0 : Int32))]) ?_
  exact w_X0_turnRound_l2 C N Q R _ ha0 N _ _ h
/-! X0_step -/
set_option maxHeartbeats 4000000 in
set_option maxRecDepth 100000 in
theorem c_X0_step (l : Launch) (G : zG) (N : Nat) (a0 : Nat) (ha0 : zkd a0 = 0) (x1 : Int32) (x2 : Int32) (x3 : Int32) (M : zMem) (Q : Int32 → zMem → Prop) (h : f_X0_step N a0 x1 x2 x3 M Q) : zMI l G yX0_step cX0_step 5 .int 0 [zR G a0, .int x1, .int x2, .int x3] M Q := by
  refine zEI (by decide) (Nat.le_of_ble_eq_true rfl) (lv := [(0, zR G a0), (1, .int x1), (2, .int x2), (3, .int x3)]) rfl (fun X C R => ?_)
  have C : zC G X cX0_step RX0 0 5 := C
  unfold f_X0_step at h
  refine zr_iload_n C 1 dX0_step_0 rfl rfl ?_
  refine zr_bipush C (v := 8) dX0_step_1 (by decide) ?_
  refine zr_imul C dX0_step_3 ?_
  refine zr_iconst C (v := 2) dX0_step_4 (by decide) ?_
  refine zr_iload_n C 2 dX0_step_5 rfl rfl ?_
  refine zr_imul C dX0_step_6 ?_
  refine zr_iadd C dX0_step_7 ?_
  refine zr_iload_n C 3 dX0_step_8 rfl rfl ?_
  refine zr_iadd C dX0_step_9 ?_
  refine zr_letI (fun v1 hv1 => ?_)
  have h := h v1 hv1
  refine zr_istore C [1, 0] dX0_step_10 (by decide) rfl (lv' := [(0, zR G a0), (4, .int v1)]) ?_
  refine zr_aload_n C 0 dX0_step_12 rfl rfl ?_
  refine zg_X0_15 C ha0 dX0_step_13 ?_
  refine zr_iload C 1 dX0_step_16 rfl ?_
  refine zr_iconst C (v := 2) dX0_step_18 (by decide) ?_
  refine zr_iadd C dX0_step_19 ?_
  refine zr_iald C (zkd0_2 ha0) h.1 dX0_step_20 ?_
  have h := h.2
  refine zr_aload_n C 0 dX0_step_21 rfl rfl ?_
  refine zg_X0_15 C ha0 dX0_step_22 ?_
  refine zr_iload C 1 dX0_step_25 rfl ?_
  refine zr_iald C (zkd0_2 ha0) h.1 dX0_step_27 ?_
  have h := h.2
  refine zr_isub C dX0_step_28 ?_
  exact R _ _ _ _ h dX0_step_29
/-! X0_least -/
set_option maxHeartbeats 4000000 in
set_option maxRecDepth 100000 in
theorem c_X0_least (l : Launch) (G : zG) (N : Nat) (a0 : Nat) (ha0 : zkd a0 = 0) (x1 : Int32) (x2 : Int32) (M : zMem) (Q : Int32 → zMem → Prop) (h : f_X0_least N a0 x1 x2 M Q) : zMI l G yX0_least cX0_least 3 .int 0 [zR G a0, .int x1, .int x2] M Q := by
  refine zEI (by decide) (Nat.le_of_ble_eq_true rfl) (lv := [(0, zR G a0), (1, .int x1), (2, .int x2)]) rfl (fun X C R => ?_)
  have C : zC G X cX0_least RX0 0 3 := C
  unfold f_X0_least at h
  refine zr_aload_n C 0 dX0_least_0 rfl rfl ?_
  refine zg_X0_18 C ha0 dX0_least_1 ?_
  refine zr_iconst C (v := 4) dX0_least_4 (by decide) ?_
  refine zr_iload_n C 1 dX0_least_5 rfl rfl ?_
  refine zr_imul C dX0_least_6 ?_
  refine zr_iconst C (v := 2) dX0_least_7 (by decide) ?_
  refine zr_iload_n C 2 dX0_least_8 rfl rfl ?_
  refine zr_imul C dX0_least_9 ?_
  refine zr_iadd C dX0_least_10 ?_
  refine zr_iald C (zkd0_3 ha0) h.1 dX0_least_11 ?_
  have h := h.2
  exact R _ _ _ _ h dX0_least_12
/-! X0_greatest -/
set_option maxHeartbeats 4000000 in
set_option maxRecDepth 100000 in
theorem c_X0_greatest (l : Launch) (G : zG) (N : Nat) (a0 : Nat) (ha0 : zkd a0 = 0) (x1 : Int32) (x2 : Int32) (M : zMem) (Q : Int32 → zMem → Prop) (h : f_X0_greatest N a0 x1 x2 M Q) : zMI l G yX0_greatest cX0_greatest 3 .int 0 [zR G a0, .int x1, .int x2] M Q := by
  refine zEI (by decide) (Nat.le_of_ble_eq_true rfl) (lv := [(0, zR G a0), (1, .int x1), (2, .int x2)]) rfl (fun X C R => ?_)
  have C : zC G X cX0_greatest RX0 0 3 := C
  unfold f_X0_greatest at h
  refine zr_aload_n C 0 dX0_greatest_0 rfl rfl ?_
  refine zg_X0_18 C ha0 dX0_greatest_1 ?_
  refine zr_iconst C (v := 4) dX0_greatest_4 (by decide) ?_
  refine zr_iload_n C 1 dX0_greatest_5 rfl rfl ?_
  refine zr_imul C dX0_greatest_6 ?_
  refine zr_iconst C (v := 2) dX0_greatest_7 (by decide) ?_
  refine zr_iload_n C 2 dX0_greatest_8 rfl rfl ?_
  refine zr_imul C dX0_greatest_9 ?_
  refine zr_iadd C dX0_greatest_10 ?_
  refine zr_iconst C (v := 1) dX0_greatest_11 (by decide) ?_
  refine zr_iadd C dX0_greatest_12 ?_
  refine zr_iald C (zkd0_3 ha0) h.1 dX0_greatest_13 ?_
  have h := h.2
  exact R _ _ _ _ h dX0_greatest_14
/-! X0_areaParts -/
set_option maxHeartbeats 4000000 in
set_option maxRecDepth 100000 in
theorem w_X0_areaParts_b13 {G : zG} {X : zX} (C : zC G X cX0_areaParts RX0 0 5) (N : Nat) (Q : Int32 → zMem → Prop) (R : zRI G X cX0_areaParts Q) (a0 : Nat) (ha0 : zkd a0 = 0) (x2 : Int32) (k4 : Int32 → Int32 → zMem → Prop) (hk4 : ∀ (z1 : Int32) (z2 : Int32) (M : zMem), k4 z1 z2 M → zV G X M [(0, zR G a0), (1, .int z1), (2, .int z2)] [] 4) (k13 : Int32 → Int32 → zMem → Prop) (hk13 : ∀ (z1 : Int32) (z3 : Int32) (M : zMem), k13 z1 z3 M → zV G X M [(0, zR G a0), (1, .int z1), (2, .int x2), (3, .int z3)] [] 13) (x1 : Int32) (x3 : Int32) (M : zMem) (h : f_X0_areaParts_b13 N k4 k13 a0 x2 x1 x3 M Q) : zV G X M [(0, zR G a0), (1, .int x1), (2, .int x2), (3, .int x3)] [] 13 := by
  unfold f_X0_areaParts_b13 at h
  refine zr_iload_n C 3 dX0_areaParts_13 rfl rfl ?_
  refine zr_iconst C (v := 4) dX0_areaParts_14 (by decide) ?_
  refine zr_icmp_ge C 80 dX0_areaParts_15 (by decide) (fun c => ?_) (fun c => ?_)
  · have h := h.1 c
    obtain ⟨v2, hv2⟩ : ∃ y : Int32, y = x2 + (1 : Int32) := ⟨_, rfl⟩
    have h := h v2 hv2
    refine zr_iinc C 2 [1, 2, 0] dX0_areaParts_80 rfl (by rw [hv2]; rfl) (by decide) rfl (lv' := [(0, zR G a0), (1, .int x1), (2, .int v2)]) ?_
    refine zr_goto C 4 dX0_areaParts_83 (by decide) ?_
    exact hk4 _ _ _ h
  · have h := h.2 c
    refine zr_aload_n C 0 dX0_areaParts_18 rfl rfl ?_
    refine zg_X0_9 C ha0 dX0_areaParts_19 ?_
    refine zr_iconst C (v := 2) dX0_areaParts_22 (by decide) ?_
    refine zr_iload_n C 2 dX0_areaParts_23 rfl rfl ?_
    refine zr_imul C dX0_areaParts_24 ?_
    refine zr_iald C (zkd0_1 ha0) h.1 dX0_areaParts_25 ?_
    have h := h.2
    refine zr_aload_n C 0 dX0_areaParts_26 rfl rfl ?_
    refine zg_X0_9 C ha0 dX0_areaParts_27 ?_
    refine zr_iconst C (v := 2) dX0_areaParts_30 (by decide) ?_
    refine zr_iload_n C 3 dX0_areaParts_31 rfl rfl ?_
    refine zr_imul C dX0_areaParts_32 ?_
    refine zr_iconst C (v := 1) dX0_areaParts_33 (by decide) ?_
    refine zr_iadd C dX0_areaParts_34 ?_
    refine zr_iald C (zkd0_1 ha0) h.1 dX0_areaParts_35 ?_
    have h := h.2
    refine zr_imul C dX0_areaParts_36 ?_
    refine zr_aload_n C 0 dX0_areaParts_37 rfl rfl ?_
    refine zg_X0_9 C ha0 dX0_areaParts_38 ?_
    refine zr_iconst C (v := 2) dX0_areaParts_41 (by decide) ?_
    refine zr_iload_n C 2 dX0_areaParts_42 rfl rfl ?_
    refine zr_imul C dX0_areaParts_43 ?_
    refine zr_iconst C (v := 1) dX0_areaParts_44 (by decide) ?_
    refine zr_iadd C dX0_areaParts_45 ?_
    refine zr_iald C (zkd0_1 ha0) h.1 dX0_areaParts_46 ?_
    have h := h.2
    refine zr_aload_n C 0 dX0_areaParts_47 rfl rfl ?_
    refine zg_X0_9 C ha0 dX0_areaParts_48 ?_
    refine zr_iconst C (v := 2) dX0_areaParts_51 (by decide) ?_
    refine zr_iload_n C 3 dX0_areaParts_52 rfl rfl ?_
    refine zr_imul C dX0_areaParts_53 ?_
    refine zr_iald C (zkd0_1 ha0) h.1 dX0_areaParts_54 ?_
    have h := h.2
    refine zr_imul C dX0_areaParts_55 ?_
    refine zr_isub C dX0_areaParts_56 ?_
    refine zr_letI (fun v3 hv3 => ?_)
    have h := h v3 hv3
    refine zr_istore C [1, 2, 3, 4, 0] dX0_areaParts_57 (by decide) rfl (lv' := [(0, zR G a0), (1, .int x1), (2, .int x2), (3, .int x3), (4, .int v3)]) ?_
    refine zr_iload_n C 1 dX0_areaParts_59 rfl rfl ?_
    refine zr_gets C znf_X0_80 dX0_areaParts_60 ?_
    refine zr_iconst C (v := 4) dX0_areaParts_63 (by decide) ?_
    refine zr_iload_n C 2 dX0_areaParts_64 rfl rfl ?_
    refine zr_imul C dX0_areaParts_65 ?_
    refine zr_iload_n C 3 dX0_areaParts_66 rfl rfl ?_
    refine zr_iadd C dX0_areaParts_67 ?_
    refine zr_tald C h.1 dX0_areaParts_68 ?_
    have h := h.2
    refine zr_iload C 4 dX0_areaParts_69 rfl ?_
    refine zr_imul C dX0_areaParts_71 ?_
    refine zr_iadd C dX0_areaParts_72 ?_
    refine zr_letI (fun v4 hv4 => ?_)
    have h := h v4 hv4
    refine zr_istore_n C [1, 0, 2, 3] dX0_areaParts_73 rfl (by decide) rfl (lv' := [(0, zR G a0), (1, .int v4), (2, .int x2), (3, .int x3)]) ?_
    obtain ⟨v5, hv5⟩ : ∃ y : Int32, y = x3 + (1 : Int32) := ⟨_, rfl⟩
    have h := h v5 hv5
    refine zr_iinc C 3 [1, 2, 3, 0] dX0_areaParts_74 rfl (by rw [hv5]; rfl) (by decide) rfl (lv' := [(0, zR G a0), (1, .int v4), (2, .int x2), (3, .int v5)]) ?_
    refine zr_goto C 13 dX0_areaParts_77 (by decide) ?_
    exact hk13 _ _ _ h
theorem w_X0_areaParts_l13 {G : zG} {X : zX} (C : zC G X cX0_areaParts RX0 0 5) (N : Nat) (Q : Int32 → zMem → Prop) (R : zRI G X cX0_areaParts Q) (a0 : Nat) (ha0 : zkd a0 = 0) (x2 : Int32) (k4 : Int32 → Int32 → zMem → Prop) (hk4 : ∀ (z1 : Int32) (z2 : Int32) (M : zMem), k4 z1 z2 M → zV G X M [(0, zR G a0), (1, .int z1), (2, .int z2)] [] 4) : ∀ (n : Nat) (x1 : Int32) (x3 : Int32) (M : zMem), f_X0_areaParts_l13 N k4 a0 x2 Q n x1 x3 M → zV G X M [(0, zR G a0), (1, .int x1), (2, .int x2), (3, .int x3)] [] 13 := by
  intro n
  induction n with
  | zero => intro x1 x3 M h; exact h.elim
  | succ n ih =>
    intro x1 x3 M h
    exact w_X0_areaParts_b13 C N Q R a0 ha0 x2 k4 hk4 _ ih x1 x3 M h
set_option maxHeartbeats 4000000 in
set_option maxRecDepth 100000 in
theorem w_X0_areaParts_b4 {G : zG} {X : zX} (C : zC G X cX0_areaParts RX0 0 5) (N : Nat) (Q : Int32 → zMem → Prop) (R : zRI G X cX0_areaParts Q) (a0 : Nat) (ha0 : zkd a0 = 0) (k4 : Int32 → Int32 → zMem → Prop) (hk4 : ∀ (z1 : Int32) (z2 : Int32) (M : zMem), k4 z1 z2 M → zV G X M [(0, zR G a0), (1, .int z1), (2, .int z2)] [] 4) (x1 : Int32) (x2 : Int32) (M : zMem) (h : f_X0_areaParts_b4 N k4 a0 x1 x2 M Q) : zV G X M [(0, zR G a0), (1, .int x1), (2, .int x2)] [] 4 := by
  unfold f_X0_areaParts_b4 at h
  refine zr_iload_n C 2 dX0_areaParts_4 rfl rfl ?_
  refine zr_iconst C (v := 4) dX0_areaParts_5 (by decide) ?_
  refine zr_icmp_ge C 86 dX0_areaParts_6 (by decide) (fun c => ?_) (fun c => ?_)
  · have h := h.1 c
    refine zr_iload_n C 1 dX0_areaParts_86 rfl rfl ?_
    exact R _ _ _ _ h dX0_areaParts_87
  · have h := h.2 c
    refine zr_iload_n C 2 dX0_areaParts_9 rfl rfl ?_
    refine zr_iconst C (v := 1) dX0_areaParts_10 (by decide) ?_
    refine zr_iadd C dX0_areaParts_11 ?_
    refine zr_letI (fun v1 hv1 => ?_)
    have h := h v1 hv1
    refine zr_istore_n C [1, 2, 3, 0] dX0_areaParts_12 rfl (by decide) rfl (lv' := [(0, zR G a0), (1, .int x1), (2, .int x2), (3, .int v1)]) ?_
    exact w_X0_areaParts_l13 C N Q R _ ha0 _ _ hk4 N _ _ _ h
theorem w_X0_areaParts_l4 {G : zG} {X : zX} (C : zC G X cX0_areaParts RX0 0 5) (N : Nat) (Q : Int32 → zMem → Prop) (R : zRI G X cX0_areaParts Q) (a0 : Nat) (ha0 : zkd a0 = 0) : ∀ (n : Nat) (x1 : Int32) (x2 : Int32) (M : zMem), f_X0_areaParts_l4 N a0 Q n x1 x2 M → zV G X M [(0, zR G a0), (1, .int x1), (2, .int x2)] [] 4 := by
  intro n
  induction n with
  | zero => intro x1 x2 M h; exact h.elim
  | succ n ih =>
    intro x1 x2 M h
    exact w_X0_areaParts_b4 C N Q R a0 ha0  _ ih x1 x2 M h
set_option maxHeartbeats 4000000 in
set_option maxRecDepth 100000 in
theorem c_X0_areaParts (l : Launch) (G : zG) (N : Nat) (a0 : Nat) (ha0 : zkd a0 = 0) (M : zMem) (Q : Int32 → zMem → Prop) (h : f_X0_areaParts N a0 M Q) : zMI l G yX0_areaParts cX0_areaParts 5 .int 0 [zR G a0] M Q := by
  refine zEI (by decide) (Nat.le_of_ble_eq_true rfl) (lv := [(0, zR G a0)]) rfl (fun X C R => ?_)
  have C : zC G X cX0_areaParts RX0 0 5 := C
  unfold f_X0_areaParts at h
  refine zr_iconst C (v := 0) dX0_areaParts_0 (by decide) ?_
  refine zr_istore_n C [1, 0] dX0_areaParts_1 rfl (by decide) rfl (lv' := [(0, zR G a0), (1, .int (0 : Int32))]) ?_
  refine zr_iconst C (v := 0) dX0_areaParts_2 (by decide) ?_
  refine zr_istore_n C [1, 2, 0] dX0_areaParts_3 rfl (by decide) rfl (lv' := [(0, zR G a0), (1, .int (0 : Int32)), (2, .int (0 : Int32))]) ?_
  exact w_X0_areaParts_l4 C N Q R _ ha0 N _ _ _ h
/-! X1_loseOldest -/
set_option maxHeartbeats 4000000 in
set_option maxRecDepth 100000 in
theorem c_X1_loseOldest (l : Launch) (G : zG) (N : Nat)  (M : zMem) (Q : zMem → Prop) (h : f_X1_loseOldest N  M Q) : zMU l G yX1_loseOldest cX1_loseOldest 1 1 [zR G 29] M Q := by
  refine zEU (by decide) (Nat.le_of_ble_eq_true rfl) (lv := [(0, zR G 29)]) rfl (fun X C R => ?_)
  have C : zC G X cX1_loseOldest RX1 1 1 := C
  unfold f_X1_loseOldest at h
  refine zr_aload_n C 0 dX1_loseOldest_0 rfl rfl ?_
  refine zr_bipush C (v := 9) dX1_loseOldest_1 (by decide) ?_
  refine zp_X1_18 C zo_29 dX1_loseOldest_3 ?_
  refine zr_letM (fun M1 hM1 => ?_)
  have h := h M1 hM1
  refine zr_aload_n C 0 dX1_loseOldest_6 rfl rfl ?_
  refine zg_X1_9 C zo_29 dX1_loseOldest_7 ?_
  refine zr_iconst C (v := 1) dX1_loseOldest_10 (by decide) ?_
  refine zr_aload_n C 0 dX1_loseOldest_11 rfl rfl ?_
  refine zg_X1_9 C zo_29 dX1_loseOldest_12 ?_
  refine zr_iconst C (v := 0) dX1_loseOldest_15 (by decide) ?_
  refine zr_aload_n C 0 dX1_loseOldest_16 rfl rfl ?_
  refine zg_X1_18 C zo_29 dX1_loseOldest_17 ?_
  refine zr_copy C za_30 za_30 zlm_X1_25 zw2_copy (by decide) (Nat.le_of_ble_eq_true rfl) h.1 h.2.1 h.2.2.1 h.2.2.2.1 h.2.2.2.2.1 dX1_loseOldest_20 ?_
  have h := h.2.2.2.2.2
  refine zr_letM (fun M2 hM2 => ?_)
  have h := h M2 hM2
  refine zr_aload_n C 0 dX1_loseOldest_23 rfl rfl ?_
  refine zg_X1_15 C zo_29 dX1_loseOldest_24 ?_
  refine zr_bipush C (v := 8) dX1_loseOldest_27 (by decide) ?_
  refine zr_aload_n C 0 dX1_loseOldest_29 rfl rfl ?_
  refine zg_X1_15 C zo_29 dX1_loseOldest_30 ?_
  refine zr_iconst C (v := 0) dX1_loseOldest_33 (by decide) ?_
  refine zr_aload_n C 0 dX1_loseOldest_34 rfl rfl ?_
  refine zg_X1_18 C zo_29 dX1_loseOldest_35 ?_
  refine zr_bipush C (v := 8) dX1_loseOldest_38 (by decide) ?_
  refine zr_imul C dX1_loseOldest_40 ?_
  refine zr_copy C za_31 za_31 zlm_X1_25 zw2_copy (by decide) (Nat.le_of_ble_eq_true rfl) h.1 h.2.1 h.2.2.1 h.2.2.2.1 h.2.2.2.2.1 dX1_loseOldest_41 ?_
  have h := h.2.2.2.2.2
  refine zr_letM (fun M3 hM3 => ?_)
  have h := h M3 hM3
  exact R _ _ _ h dX1_loseOldest_44
/-! X1_adds -/
set_option maxHeartbeats 4000000 in
set_option maxRecDepth 100000 in
theorem w_X1_adds_b13 {G : zG} {X : zX} (C : zC G X cX1_adds RX1 2 3) (N : Nat) (Q : zMem → Prop) (R : zRU G X cX1_adds Q) (x1 : Int32) (a2 : Nat) (ha2 : zkd a2 = 8) (M : zMem) (h : f_X1_adds_b13 N x1 a2 M Q) : zV G X M [(0, zR G 29), (1, .int x1), (2, zR G a2)] [] 13 := by
  unfold f_X1_adds_b13 at h
  refine zr_aload_n C 0 dX1_adds_13 rfl rfl ?_
  refine zg_X1_9 C zo_29 dX1_adds_14 ?_
  refine zr_aload_n C 0 dX1_adds_17 rfl rfl ?_
  refine zg_X1_18 C zo_29 dX1_adds_18 ?_
  refine zr_iload_n C 1 dX1_adds_21 rfl rfl ?_
  refine zr_iast C za_30 h.1 dX1_adds_22 ?_
  have h := h.2
  refine zr_letM (fun M1 hM1 => ?_)
  have h := h M1 hM1
  refine zr_aload_n C 2 dX1_adds_23 rfl rfl ?_
  refine zr_iconst C (v := 0) dX1_adds_24 (by decide) ?_
  refine zr_aload_n C 0 dX1_adds_25 rfl rfl ?_
  refine zg_X1_15 C zo_29 dX1_adds_26 ?_
  refine zr_aload_n C 0 dX1_adds_29 rfl rfl ?_
  refine zg_X1_18 C zo_29 dX1_adds_30 ?_
  refine zr_bipush C (v := 8) dX1_adds_33 (by decide) ?_
  refine zr_imul C dX1_adds_35 ?_
  refine zr_bipush C (v := 8) dX1_adds_36 (by decide) ?_
  refine zr_copy C ⟨ha2, rfl⟩ za_31 zlm_X1_25 zw2_copy (by decide) (Nat.le_of_ble_eq_true rfl) h.1 h.2.1 h.2.2.1 h.2.2.2.1 h.2.2.2.2.1 dX1_adds_38 ?_
  have h := h.2.2.2.2.2
  refine zr_letM (fun M2 hM2 => ?_)
  have h := h M2 hM2
  refine zr_aload_n C 0 dX1_adds_41 rfl rfl ?_
  refine zr_dup C rfl dX1_adds_42 ?_
  refine zg_X1_18 C zo_29 dX1_adds_43 ?_
  refine zr_iconst C (v := 1) dX1_adds_46 (by decide) ?_
  refine zr_iadd C dX1_adds_47 ?_
  refine zp_X1_18 C zo_29 dX1_adds_48 ?_
  refine zr_letM (fun M3 hM3 => ?_)
  have h := h M3 hM3
  exact R _ _ _ h dX1_adds_51
set_option maxHeartbeats 4000000 in
set_option maxRecDepth 100000 in
theorem c_X1_adds (l : Launch) (G : zG) (N : Nat) (x1 : Int32) (a2 : Nat) (ha2 : zkd a2 = 8) (M : zMem) (Q : zMem → Prop) (h : f_X1_adds N x1 a2 M Q) : zMU l G yX1_adds cX1_adds 3 2 [zR G 29, .int x1, zR G a2] M Q := by
  refine zEU (by decide) (Nat.le_of_ble_eq_true rfl) (lv := [(0, zR G 29), (1, .int x1), (2, zR G a2)]) rfl (fun X C R => ?_)
  have C : zC G X cX1_adds RX1 2 3 := C
  unfold f_X1_adds at h
  refine zr_aload_n C 0 dX1_adds_0 rfl rfl ?_
  refine zg_X1_18 C zo_29 dX1_adds_1 ?_
  refine zr_bipush C (v := 10) dX1_adds_4 (by decide) ?_
  refine zr_icmp_lt C 13 dX1_adds_6 (by decide) (fun c => ?_) (fun c => ?_)
  · have h := h.1 c
    exact w_X1_adds_b13 C N Q R _ _ ha2 _ h
  · have h := h.2 c
    refine zr_aload_n C 0 dX1_adds_9 rfl rfl ?_
    refine zcU (zrunV C (rest := []) (c_X1_loseOldest X.2.1 G N  _ _ h) zk_X1_loseOldest zl_X1_22 (zRc_1 zo_29) (by decide) (by decide) rfl (Nat.le_of_ble_eq_true rfl) rfl dX1_adds_10) (fun M5 h => ?_)
    exact w_X1_adds_b13 C N Q R _ _ ha2 _ h
/-! X2_place -/
set_option maxHeartbeats 4000000 in
set_option maxRecDepth 100000 in
theorem c_X2_place (l : Launch) (G : zG) (N : Nat) (x0 : Int32) (x1 : Int32) (M : zMem) (Q : Int32 → zMem → Prop) (h : f_X2_place N x0 x1 M Q) : zMI l G yX2_place cX2_place 2 .int 0 [.int x0, .int x1] M Q := by
  refine zEI (by decide) (Nat.le_of_ble_eq_true rfl) (lv := [(0, .int x0), (1, .int x1)]) rfl (fun X C R => ?_)
  have C : zC G X cX2_place RX2 0 2 := C
  unfold f_X2_place at h
  refine zr_iload_n C 0 dX2_place_0 rfl rfl ?_
  refine zr_iconst C (v := 4) dX2_place_1 (by decide) ?_
  refine zr_imul C dX2_place_2 ?_
  refine zr_iload_n C 1 dX2_place_3 rfl rfl ?_
  refine zr_iadd C dX2_place_4 ?_
  refine zr_bipush C (v := 8) dX2_place_5 (by decide) ?_
  refine zr_imul C dX2_place_7 ?_
  exact R _ _ _ _ h dX2_place_8
/-! X2_drop -/
set_option maxHeartbeats 4000000 in
set_option maxRecDepth 100000 in
theorem w_X2_drop_b2 {G : zG} {X : zX} (C : zC G X cX2_drop RX2 0 2) (N : Nat) (Q : zMem → Prop) (R : zRU G X cX2_drop Q) (k2 : Int32 → zMem → Prop) (hk2 : ∀ (z1 : Int32) (M : zMem), k2 z1 M → zV G X M [(0, zR G 32), (1, .int z1)] [] 2) (x1 : Int32) (M : zMem) (h : f_X2_drop_b2 N k2 x1 M Q) : zV G X M [(0, zR G 32), (1, .int x1)] [] 2 := by
  unfold f_X2_drop_b2 at h
  refine zr_iload_n C 1 dX2_drop_2 rfl rfl ?_
  refine zr_iconst C (v := 2) dX2_drop_3 (by decide) ?_
  refine zr_icmp_ge C 20 dX2_drop_4 (by decide) (fun c => ?_) (fun c => ?_)
  · have h := h.1 c
    exact R _ _ _ h dX2_drop_20
  · have h := h.2 c
    refine zr_aload_n C 0 dX2_drop_7 rfl rfl ?_
    refine zg_X2_9 C zo_32 dX2_drop_8 ?_
    refine zr_iload_n C 1 dX2_drop_11 rfl rfl ?_
    refine zr_iconst C (v := 0) dX2_drop_12 (by decide) ?_
    refine zr_zast C za_33 h.1 dX2_drop_13 ?_
    have h := h.2
    refine zr_letM (fun M1 hM1 => ?_)
    have h := h M1 hM1
    obtain ⟨v2, hv2⟩ : ∃ y : Int32, y = x1 + (1 : Int32) := ⟨_, rfl⟩
    have h := h v2 hv2
    refine zr_iinc C 1 [1, 0] dX2_drop_14 rfl (by rw [hv2]; rfl) (by decide) rfl (lv' := [(0, zR G 32), (1, .int v2)]) ?_
    refine zr_goto C 2 dX2_drop_17 (by decide) ?_
    exact hk2 _ _ h
theorem w_X2_drop_l2 {G : zG} {X : zX} (C : zC G X cX2_drop RX2 0 2) (N : Nat) (Q : zMem → Prop) (R : zRU G X cX2_drop Q)  : ∀ (n : Nat) (x1 : Int32) (M : zMem), f_X2_drop_l2 N  Q n x1 M → zV G X M [(0, zR G 32), (1, .int x1)] [] 2 := by
  intro n
  induction n with
  | zero => intro x1 M h; exact h.elim
  | succ n ih =>
    intro x1 M h
    exact w_X2_drop_b2 C N Q R   _ ih x1 M h
set_option maxHeartbeats 4000000 in
set_option maxRecDepth 100000 in
theorem c_X2_drop (l : Launch) (G : zG) (N : Nat)  (M : zMem) (Q : zMem → Prop) (h : f_X2_drop N  M Q) : zMU l G yX2_drop cX2_drop 2 0 [zR G 32] M Q := by
  refine zEU (by decide) (Nat.le_of_ble_eq_true rfl) (lv := [(0, zR G 32)]) rfl (fun X C R => ?_)
  have C : zC G X cX2_drop RX2 0 2 := C
  unfold f_X2_drop at h
  refine zr_iconst C (v := 0) dX2_drop_0 (by decide) ?_
  refine zr_istore_n C [1, 0] dX2_drop_1 rfl (by decide) rfl (lv' := [(0, zR G 32), (1, .int (0 : Int32))]) ?_
  exact w_X2_drop_l2 C N Q R  N _ _ h
/-! X3_outdate -/
set_option maxHeartbeats 4000000 in
set_option maxRecDepth 100000 in
theorem w_X3_outdate_b12 {G : zG} {X : zX} (C : zC G X cX3_outdate RX3 0 2) (N : Nat) (Q : zMem → Prop) (R : zRU G X cX3_outdate Q) (k12 : Int32 → zMem → Prop) (hk12 : ∀ (z1 : Int32) (M : zMem), k12 z1 M → zV G X M [(0, zR G 38), (1, .int z1)] [] 12) (x1 : Int32) (M : zMem) (h : f_X3_outdate_b12 N k12 x1 M Q) : zV G X M [(0, zR G 38), (1, .int x1)] [] 12 := by
  unfold f_X3_outdate_b12 at h
  refine zr_iload_n C 1 dX3_outdate_12 rfl rfl ?_
  refine zr_bipush C (v := 16) dX3_outdate_13 (by decide) ?_
  refine zr_icmp_ge C 31 dX3_outdate_15 (by decide) (fun c => ?_) (fun c => ?_)
  · have h := h.1 c
    exact R _ _ _ h dX3_outdate_31
  · have h := h.2 c
    refine zr_aload_n C 0 dX3_outdate_18 rfl rfl ?_
    refine zg_X3_50 C zo_38 dX3_outdate_19 ?_
    refine zr_iload_n C 1 dX3_outdate_22 rfl rfl ?_
    refine zr_iconst C (v := -1) dX3_outdate_23 (by decide) ?_
    refine zr_iast C za_46 h.1 dX3_outdate_24 ?_
    have h := h.2
    refine zr_letM (fun M3 hM3 => ?_)
    have h := h M3 hM3
    obtain ⟨v4, hv4⟩ : ∃ y : Int32, y = x1 + (1 : Int32) := ⟨_, rfl⟩
    have h := h v4 hv4
    refine zr_iinc C 1 [1, 0] dX3_outdate_25 rfl (by rw [hv4]; rfl) (by decide) rfl (lv' := [(0, zR G 38), (1, .int v4)]) ?_
    refine zr_goto C 12 dX3_outdate_28 (by decide) ?_
    exact hk12 _ _ h
theorem w_X3_outdate_l12 {G : zG} {X : zX} (C : zC G X cX3_outdate RX3 0 2) (N : Nat) (Q : zMem → Prop) (R : zRU G X cX3_outdate Q)  : ∀ (n : Nat) (x1 : Int32) (M : zMem), f_X3_outdate_l12 N  Q n x1 M → zV G X M [(0, zR G 38), (1, .int x1)] [] 12 := by
  intro n
  induction n with
  | zero => intro x1 M h; exact h.elim
  | succ n ih =>
    intro x1 M h
    exact w_X3_outdate_b12 C N Q R   _ ih x1 M h
set_option maxHeartbeats 4000000 in
set_option maxRecDepth 100000 in
theorem c_X3_outdate (l : Launch) (G : zG) (N : Nat)  (M : zMem) (Q : zMem → Prop) (h : f_X3_outdate N  M Q) : zMU l G yX3_outdate cX3_outdate 2 0 [zR G 38] M Q := by
  refine zEU (by decide) (Nat.le_of_ble_eq_true rfl) (lv := [(0, zR G 38)]) rfl (fun X C R => ?_)
  have C : zC G X cX3_outdate RX3 0 2 := C
  unfold f_X3_outdate at h
  refine zr_aload_n C 0 dX3_outdate_0 rfl rfl ?_
  refine zr_iconst C (v := -1) dX3_outdate_1 (by decide) ?_
  refine zp_X3_44 C zo_38 dX3_outdate_2 ?_
  refine zr_letM (fun M1 hM1 => ?_)
  have h := h M1 hM1
  refine zr_aload_n C 0 dX3_outdate_5 rfl rfl ?_
  refine zr_iconst C (v := -1) dX3_outdate_6 (by decide) ?_
  refine zp_X3_47 C zo_38 dX3_outdate_7 ?_
  refine zr_letM (fun M2 hM2 => ?_)
  have h := h M2 hM2
  refine zr_iconst C (v := 0) dX3_outdate_10 (by decide) ?_
  refine zr_istore_n C [1, 0] dX3_outdate_11 rfl (by decide) rfl (lv' := [(0, zR G 38), (1, .int (0 : Int32))]) ?_
  exact w_X3_outdate_l12 C N Q R  N _ _ h
/-! X3_isOver -/
set_option maxHeartbeats 4000000 in
set_option maxRecDepth 100000 in
theorem c_X3_isOver (l : Launch) (G : zG) (N : Nat)  (M : zMem) (Q : Int32 → zMem → Prop) (h : f_X3_isOver N  M Q) : zMI l G yX3_isOver cX3_isOver 1 .boolean 0 [zR G 38] M Q := by
  refine zEZ (by decide) (Nat.le_of_ble_eq_true rfl) (lv := [(0, zR G 38)]) rfl (fun X C R => ?_)
  have C : zC G X cX3_isOver RX3 0 1 := C
  unfold f_X3_isOver at h
  refine zr_aload_n C 0 dX3_isOver_0 rfl rfl ?_
  refine zg_X3_28 C zo_38 dX3_isOver_1 ?_
  refine zr_bipush C (v := 100) dX3_isOver_4 (by decide) ?_
  refine zr_icmp_le C 13 dX3_isOver_6 (by decide) (fun c => ?_) (fun c => ?_)
  · have h := h.1 c
    refine zr_iconst C (v := 0) dX3_isOver_13 (by decide) ?_
    exact R _ _ _ _ zb_0.1 h dX3_isOver_14
  · have h := h.2 c
    refine zr_iconst C (v := 1) dX3_isOver_9 (by decide) ?_
    refine zr_goto C 14 dX3_isOver_10 (by decide) ?_
    exact R _ _ _ _ zb_1.1 h dX3_isOver_14
/-! X3_tellSpot -/
set_option maxHeartbeats 4000000 in
set_option maxRecDepth 100000 in
theorem c_X3_tellSpot (l : Launch) (G : zG) (N : Nat) (x1 : Int32) (x2 : Int32) (M : zMem) (Q : Int32 → zMem → Prop) (h : f_X3_tellSpot N x1 x2 M Q) : zMI l G yX3_tellSpot cX3_tellSpot 3 .int 0 [zR G 38, .int x1, .int x2] M Q := by
  refine zEI (by decide) (Nat.le_of_ble_eq_true rfl) (lv := [(0, zR G 38), (1, .int x1), (2, .int x2)]) rfl (fun X C R => ?_)
  have C : zC G X cX3_tellSpot RX3 0 3 := C
  unfold f_X3_tellSpot at h
  refine zr_aload_n C 0 dX3_tellSpot_0 rfl rfl ?_
  refine zg_X3_38 C zo_38 dX3_tellSpot_1 ?_
  refine zr_iload_n C 1 dX3_tellSpot_4 rfl rfl ?_
  refine zr_bipush C (v := 6) dX3_tellSpot_5 (by decide) ?_
  refine zr_imul C dX3_tellSpot_7 ?_
  refine zr_iload_n C 2 dX3_tellSpot_8 rfl rfl ?_
  refine zr_iadd C dX3_tellSpot_9 ?_
  refine zr_iald C za_44 h.1 dX3_tellSpot_10 ?_
  have h := h.2
  exact R _ _ _ _ h dX3_tellSpot_11
/-! X3_hangTogether -/
set_option maxHeartbeats 4000000 in
set_option maxRecDepth 100000 in
theorem c_X3_hangTogether (l : Launch) (G : zG) (N : Nat) (x1 : Int32) (x2 : Int32) (M : zMem) (Q : Int32 → zMem → Prop) (h : f_X3_hangTogether N x1 x2 M Q) : zMI l G yX3_hangTogether cX3_hangTogether 3 .boolean 1 [zR G 38, .int x1, .int x2] M Q := by
  refine zEZ (by decide) (Nat.le_of_ble_eq_true rfl) (lv := [(0, zR G 38), (1, .int x1), (2, .int x2)]) rfl (fun X C R => ?_)
  have C : zC G X cX3_hangTogether RX3 1 3 := C
  unfold f_X3_hangTogether at h
  refine zr_aload_n C 0 dX3_hangTogether_0 rfl rfl ?_
  refine zg_X3_18 C zo_38 dX3_hangTogether_1 ?_
  refine zr_iload_n C 1 dX3_hangTogether_4 rfl rfl ?_
  refine zr_zald C za_41 h.1 dX3_hangTogether_5 ?_
  have h := h.2
  refine zr_if_ne C 62 dX3_hangTogether_6 (by decide) (fun c => ?_) (fun c => ?_)
  · have h := h.1 c
    refine zr_iconst C (v := 0) dX3_hangTogether_62 (by decide) ?_
    exact R _ _ _ _ zb_0.1 h dX3_hangTogether_63
  · have h := h.2 c
    refine zr_aload_n C 0 dX3_hangTogether_9 rfl rfl ?_
    refine zg_X3_18 C zo_38 dX3_hangTogether_10 ?_
    refine zr_iload_n C 2 dX3_hangTogether_13 rfl rfl ?_
    refine zr_zald C za_41 h.1 dX3_hangTogether_14 ?_
    have h := h.2
    refine zr_if_ne C 62 dX3_hangTogether_15 (by decide) (fun c => ?_) (fun c => ?_)
    · have h := h.1 c
      refine zr_iconst C (v := 0) dX3_hangTogether_62 (by decide) ?_
      exact R _ _ _ _ zb_0.1 h dX3_hangTogether_63
    · have h := h.2 c
      refine zr_aload_n C 0 dX3_hangTogether_18 rfl rfl ?_
      refine zg_X3_9 C zo_38 dX3_hangTogether_19 ?_
      refine zr_iload_n C 1 dX3_hangTogether_22 rfl rfl ?_
      refine zr_iald C za_39 h.1 dX3_hangTogether_23 ?_
      have h := h.2
      refine zr_aload_n C 0 dX3_hangTogether_24 rfl rfl ?_
      refine zg_X3_9 C zo_38 dX3_hangTogether_25 ?_
      refine zr_iload_n C 2 dX3_hangTogether_28 rfl rfl ?_
      refine zr_iald C za_39 h.1 dX3_hangTogether_29 ?_
      have h := h.2
      refine zr_isub C dX3_hangTogether_30 ?_
      refine zr_mabs C zlm_X3_97 zw2_mabs (by decide) (Nat.le_of_ble_eq_true rfl) dX3_hangTogether_31 ?_
      refine zr_iconst C (v := 1) dX3_hangTogether_34 (by decide) ?_
      refine zr_icmp_gt C 62 dX3_hangTogether_35 (by decide) (fun c => ?_) (fun c => ?_)
      · have h := h.1 c
        refine zr_iconst C (v := 0) dX3_hangTogether_62 (by decide) ?_
        exact R _ _ _ _ zb_0.1 h dX3_hangTogether_63
      · have h := h.2 c
        refine zr_aload_n C 0 dX3_hangTogether_38 rfl rfl ?_
        refine zg_X3_15 C zo_38 dX3_hangTogether_39 ?_
        refine zr_iload_n C 1 dX3_hangTogether_42 rfl rfl ?_
        refine zr_iald C za_40 h.1 dX3_hangTogether_43 ?_
        have h := h.2
        refine zr_aload_n C 0 dX3_hangTogether_44 rfl rfl ?_
        refine zg_X3_15 C zo_38 dX3_hangTogether_45 ?_
        refine zr_iload_n C 2 dX3_hangTogether_48 rfl rfl ?_
        refine zr_iald C za_40 h.1 dX3_hangTogether_49 ?_
        have h := h.2
        refine zr_isub C dX3_hangTogether_50 ?_
        refine zr_mabs C zlm_X3_97 zw2_mabs (by decide) (Nat.le_of_ble_eq_true rfl) dX3_hangTogether_51 ?_
        refine zr_iconst C (v := 1) dX3_hangTogether_54 (by decide) ?_
        refine zr_icmp_gt C 62 dX3_hangTogether_55 (by decide) (fun c => ?_) (fun c => ?_)
        · have h := h.1 c
          refine zr_iconst C (v := 0) dX3_hangTogether_62 (by decide) ?_
          exact R _ _ _ _ zb_0.1 h dX3_hangTogether_63
        · have h := h.2 c
          refine zr_iconst C (v := 1) dX3_hangTogether_58 (by decide) ?_
          refine zr_goto C 63 dX3_hangTogether_59 (by decide) ?_
          exact R _ _ _ _ zb_1.1 h dX3_hangTogether_63
/-! X3_gather -/
set_option maxHeartbeats 4000000 in
set_option maxRecDepth 100000 in
theorem w_X3_gather_b105 {G : zG} {X : zX} (C : zC G X cX3_gather RX3 2 5) (N : Nat) (Q : Int32 → zMem → Prop) (R : zRI G X cX3_gather Q) (x1 : Int32) (x2 : Int32) (x3 : Int32) (x4 : Int32) (k21 : Int32 → Int32 → zMem → Prop) (hk21 : ∀ (z2 : Int32) (z3 : Int32) (M : zMem), k21 z2 z3 M → zV G X M [(0, zR G 38), (1, .int x1), (2, .int z2), (3, .int z3)] [] 21) (k48 : Int32 → Int32 → zMem → Prop) (hk48 : ∀ (z2 : Int32) (z4 : Int32) (M : zMem), k48 z2 z4 M → zV G X M [(0, zR G 38), (1, .int x1), (2, .int z2), (3, .int x3), (4, .int z4)] [] 48) (M : zMem) (h : f_X3_gather_b105 N k21 k48 x1 x2 x3 x4 M Q) : zV G X M [(0, zR G 38), (1, .int x1), (2, .int x2), (3, .int x3), (4, .int x4)] [] 105 := by
  unfold f_X3_gather_b105 at h
  obtain ⟨v5, hv5⟩ : ∃ y : Int32, y = x4 + (1 : Int32) := ⟨_, rfl⟩
  have h := h v5 hv5
  refine zr_iinc C 4 [1, 2, 3, 4, 0] dX3_gather_105 rfl (by rw [hv5]; rfl) (by decide) rfl (lv' := [(0, zR G 38), (1, .int x1), (2, .int x2), (3, .int x3), (4, .int v5)]) ?_
  refine zr_goto C 48 dX3_gather_108 (by decide) ?_
  exact hk48 _ _ _ h
set_option maxHeartbeats 4000000 in
set_option maxRecDepth 100000 in
theorem w_X3_gather_b48 {G : zG} {X : zX} (C : zC G X cX3_gather RX3 2 5) (N : Nat) (Q : Int32 → zMem → Prop) (R : zRI G X cX3_gather Q) (x1 : Int32) (x3 : Int32) (k21 : Int32 → Int32 → zMem → Prop) (hk21 : ∀ (z2 : Int32) (z3 : Int32) (M : zMem), k21 z2 z3 M → zV G X M [(0, zR G 38), (1, .int x1), (2, .int z2), (3, .int z3)] [] 21) (k48 : Int32 → Int32 → zMem → Prop) (hk48 : ∀ (z2 : Int32) (z4 : Int32) (M : zMem), k48 z2 z4 M → zV G X M [(0, zR G 38), (1, .int x1), (2, .int z2), (3, .int x3), (4, .int z4)] [] 48) (x2 : Int32) (x4 : Int32) (M : zMem) (h : f_X3_gather_b48 N k21 k48 x1 x3 x2 x4 M Q) : zV G X M [(0, zR G 38), (1, .int x1), (2, .int x2), (3, .int x3), (4, .int x4)] [] 48 := by
  unfold f_X3_gather_b48 at h
  refine zr_iload C 4 dX3_gather_48 rfl ?_
  refine zr_aload_n C 0 dX3_gather_50 rfl rfl ?_
  refine zg_X3_28 C zo_38 dX3_gather_51 ?_
  refine zr_icmp_ge C 111 dX3_gather_54 (by decide) (fun c => ?_) (fun c => ?_)
  · have h := h.1 c
    obtain ⟨v4, hv4⟩ : ∃ y : Int32, y = x3 + (1 : Int32) := ⟨_, rfl⟩
    have h := h v4 hv4
    refine zr_iinc C 3 [1, 2, 3, 0] dX3_gather_111 rfl (by rw [hv4]; rfl) (by decide) rfl (lv' := [(0, zR G 38), (1, .int x1), (2, .int x2), (3, .int v4)]) ?_
    refine zr_goto C 21 dX3_gather_114 (by decide) ?_
    exact hk21 _ _ _ h
  · have h := h.2 c
    refine zr_aload_n C 0 dX3_gather_57 rfl rfl ?_
    refine zg_X3_25 C zo_38 dX3_gather_58 ?_
    refine zr_iload C 4 dX3_gather_61 rfl ?_
    refine zr_iald C za_43 h.1 dX3_gather_63 ?_
    have h := h.2
    refine zr_iconst C (v := -1) dX3_gather_64 (by decide) ?_
    refine zr_icmp_ne C 105 dX3_gather_65 (by decide) (fun c => ?_) (fun c => ?_)
    · have h := h.1 c
      exact w_X3_gather_b105 C N Q R _ _ _ _ _ hk21 _ hk48 _ h
    · have h := h.2 c
      refine zr_aload_n C 0 dX3_gather_68 rfl rfl ?_
      refine zr_aload_n C 0 dX3_gather_69 rfl rfl ?_
      refine zg_X3_41 C zo_38 dX3_gather_70 ?_
      refine zr_iload_n C 3 dX3_gather_73 rfl rfl ?_
      refine zr_iald C za_45 h.1 dX3_gather_74 ?_
      have h := h.2
      refine zr_iload C 4 dX3_gather_75 rfl ?_
      refine zcI (zrunV C (rest := []) (c_X3_hangTogether X.2.1 G N _ _ _ _ h) zk_X3_hangTogether zl_X3_93 (zRc_3 zo_38) (by decide) (by decide) rfl (Nat.le_of_ble_eq_true rfl) rfl dX3_gather_77) (fun r6 M7 h => ?_)
      refine zr_if_eq C 105 dX3_gather_80 (by decide) (fun c => ?_) (fun c => ?_)
      · have h := h.1 c
        exact w_X3_gather_b105 C N Q R _ _ _ _ _ hk21 _ hk48 _ h
      · have h := h.2 c
        refine zr_aload_n C 0 dX3_gather_83 rfl rfl ?_
        refine zg_X3_25 C zo_38 dX3_gather_84 ?_
        refine zr_iload C 4 dX3_gather_87 rfl ?_
        refine zr_aload_n C 0 dX3_gather_89 rfl rfl ?_
        refine zg_X3_35 C zo_38 dX3_gather_90 ?_
        refine zr_iast C za_43 h.1 dX3_gather_93 ?_
        have h := h.2
        refine zr_letM (fun M8 hM8 => ?_)
        have h := h M8 hM8
        refine zr_aload_n C 0 dX3_gather_94 rfl rfl ?_
        refine zg_X3_41 C zo_38 dX3_gather_95 ?_
        refine zr_iload_n C 2 dX3_gather_98 rfl rfl ?_
        refine zr_iload C 4 dX3_gather_99 rfl ?_
        refine zr_iast C za_45 h.1 dX3_gather_101 ?_
        have h := h.2
        refine zr_letM (fun M9 hM9 => ?_)
        have h := h M9 hM9
        obtain ⟨v10, hv10⟩ : ∃ y : Int32, y = x2 + (1 : Int32) := ⟨_, rfl⟩
        have h := h v10 hv10
        refine zr_iinc C 2 [1, 2, 0, 3, 4] dX3_gather_102 rfl (by rw [hv10]; rfl) (by decide) rfl (lv' := [(0, zR G 38), (1, .int x1), (2, .int v10), (3, .int x3), (4, .int x4)]) ?_
        exact w_X3_gather_b105 C N Q R _ _ _ _ _ hk21 _ hk48 _ h
theorem w_X3_gather_l48 {G : zG} {X : zX} (C : zC G X cX3_gather RX3 2 5) (N : Nat) (Q : Int32 → zMem → Prop) (R : zRI G X cX3_gather Q) (x1 : Int32) (x3 : Int32) (k21 : Int32 → Int32 → zMem → Prop) (hk21 : ∀ (z2 : Int32) (z3 : Int32) (M : zMem), k21 z2 z3 M → zV G X M [(0, zR G 38), (1, .int x1), (2, .int z2), (3, .int z3)] [] 21) : ∀ (n : Nat) (x2 : Int32) (x4 : Int32) (M : zMem), f_X3_gather_l48 N k21 x1 x3 Q n x2 x4 M → zV G X M [(0, zR G 38), (1, .int x1), (2, .int x2), (3, .int x3), (4, .int x4)] [] 48 := by
  intro n
  induction n with
  | zero => intro x2 x4 M h; exact h.elim
  | succ n ih =>
    intro x2 x4 M h
    exact w_X3_gather_b48 C N Q R x1 x3 k21 hk21 _ ih x2 x4 M h
set_option maxHeartbeats 4000000 in
set_option maxRecDepth 100000 in
theorem w_X3_gather_b21 {G : zG} {X : zX} (C : zC G X cX3_gather RX3 2 5) (N : Nat) (Q : Int32 → zMem → Prop) (R : zRI G X cX3_gather Q) (x1 : Int32) (k21 : Int32 → Int32 → zMem → Prop) (hk21 : ∀ (z2 : Int32) (z3 : Int32) (M : zMem), k21 z2 z3 M → zV G X M [(0, zR G 38), (1, .int x1), (2, .int z2), (3, .int z3)] [] 21) (x2 : Int32) (x3 : Int32) (M : zMem) (h : f_X3_gather_b21 N k21 x1 x2 x3 M Q) : zV G X M [(0, zR G 38), (1, .int x1), (2, .int x2), (3, .int x3)] [] 21 := by
  unfold f_X3_gather_b21 at h
  refine zr_iload_n C 3 dX3_gather_21 rfl rfl ?_
  refine zr_aload_n C 0 dX3_gather_22 rfl rfl ?_
  refine zg_X3_28 C zo_38 dX3_gather_23 ?_
  refine zr_icmp_ge C 117 dX3_gather_26 (by decide) (fun c => ?_) (fun c => ?_)
  · have h := h.1 c
    refine zr_iload_n C 2 dX3_gather_117 rfl rfl ?_
    exact R _ _ _ _ h dX3_gather_118
  · have h := h.2 c
    refine zr_iload_n C 3 dX3_gather_29 rfl rfl ?_
    refine zr_iload_n C 2 dX3_gather_30 rfl rfl ?_
    refine zr_icmp_ge C 117 dX3_gather_31 (by decide) (fun c => ?_) (fun c => ?_)
    · have h := h.1 c
      refine zr_iload_n C 2 dX3_gather_117 rfl rfl ?_
      exact R _ _ _ _ h dX3_gather_118
    · have h := h.2 c
      refine zr_aload_n C 0 dX3_gather_34 rfl rfl ?_
      refine zg_X3_18 C zo_38 dX3_gather_35 ?_
      refine zr_iload_n C 1 dX3_gather_38 rfl rfl ?_
      refine zr_zald C za_41 h.1 dX3_gather_39 ?_
      have h := h.2
      refine zr_if_ne C 117 dX3_gather_40 (by decide) (fun c => ?_) (fun c => ?_)
      · have h := h.1 c
        refine zr_iload_n C 2 dX3_gather_117 rfl rfl ?_
        exact R _ _ _ _ h dX3_gather_118
      · have h := h.2 c
        refine zr_iload_n C 1 dX3_gather_43 rfl rfl ?_
        refine zr_iconst C (v := 1) dX3_gather_44 (by decide) ?_
        refine zr_iadd C dX3_gather_45 ?_
        refine zr_letI (fun v3 hv3 => ?_)
        have h := h v3 hv3
        refine zr_istore C [1, 2, 3, 4, 0] dX3_gather_46 (by decide) rfl (lv' := [(0, zR G 38), (1, .int x1), (2, .int x2), (3, .int x3), (4, .int v3)]) ?_
        exact w_X3_gather_l48 C N Q R _ _ _ hk21 N _ _ _ h
theorem w_X3_gather_l21 {G : zG} {X : zX} (C : zC G X cX3_gather RX3 2 5) (N : Nat) (Q : Int32 → zMem → Prop) (R : zRI G X cX3_gather Q) (x1 : Int32) : ∀ (n : Nat) (x2 : Int32) (x3 : Int32) (M : zMem), f_X3_gather_l21 N x1 Q n x2 x3 M → zV G X M [(0, zR G 38), (1, .int x1), (2, .int x2), (3, .int x3)] [] 21 := by
  intro n
  induction n with
  | zero => intro x2 x3 M h; exact h.elim
  | succ n ih =>
    intro x2 x3 M h
    exact w_X3_gather_b21 C N Q R x1  _ ih x2 x3 M h
set_option maxHeartbeats 4000000 in
set_option maxRecDepth 100000 in
theorem c_X3_gather (l : Launch) (G : zG) (N : Nat) (x1 : Int32) (M : zMem) (Q : Int32 → zMem → Prop) (h : f_X3_gather N x1 M Q) : zMI l G yX3_gather cX3_gather 5 .int 2 [zR G 38, .int x1] M Q := by
  refine zEI (by decide) (Nat.le_of_ble_eq_true rfl) (lv := [(0, zR G 38), (1, .int x1)]) rfl (fun X C R => ?_)
  have C : zC G X cX3_gather RX3 2 5 := C
  unfold f_X3_gather at h
  refine zr_aload_n C 0 dX3_gather_0 rfl rfl ?_
  refine zg_X3_25 C zo_38 dX3_gather_1 ?_
  refine zr_iload_n C 1 dX3_gather_4 rfl rfl ?_
  refine zr_aload_n C 0 dX3_gather_5 rfl rfl ?_
  refine zg_X3_35 C zo_38 dX3_gather_6 ?_
  refine zr_iast C za_43 h.1 dX3_gather_9 ?_
  have h := h.2
  refine zr_letM (fun M1 hM1 => ?_)
  have h := h M1 hM1
  refine zr_aload_n C 0 dX3_gather_10 rfl rfl ?_
  refine zg_X3_41 C zo_38 dX3_gather_11 ?_
  refine zr_iconst C (v := 0) dX3_gather_14 (by decide) ?_
  refine zr_iload_n C 1 dX3_gather_15 rfl rfl ?_
  refine zr_iast C za_45 h.1 dX3_gather_16 ?_
  have h := h.2
  refine zr_letM (fun M2 hM2 => ?_)
  have h := h M2 hM2
  refine zr_iconst C (v := 1) dX3_gather_17 (by decide) ?_
  refine zr_istore_n C [1, 2, 0] dX3_gather_18 rfl (by decide) rfl (lv' := [(0, zR G 38), (1, .int x1), (2, .int (1 : Int32))]) ?_
  refine zr_iconst C (v := 0) dX3_gather_19 (by decide) ?_
  refine zr_istore_n C [1, 2, 3, 0] dX3_gather_20 rfl (by decide) rfl (lv' := [(0, zR G 38), (1, .int x1), (2, .int (1 : Int32)), (3, .int (0 : Int32))]) ?_
  exact w_X3_gather_l21 C N Q R _ N _ _ _ h
/-! X3_kind -/
set_option maxHeartbeats 4000000 in
set_option maxRecDepth 100000 in
theorem w_X3_kind_b72 {G : zG} {X : zX} (C : zC G X cX3_kind RX3 0 5) (N : Nat) (Q : Int32 → zMem → Prop) (R : zRI G X cX3_kind Q) (x1 : Int32) (x2 : Int32) (x4 : Int32) (s0 : Int32) (k36 : Int32 → Int32 → zMem → Prop) (hk36 : ∀ (z3 : Int32) (z4 : Int32) (M : zMem), k36 z3 z4 M → zV G X M [(0, zR G 38), (1, .int x1), (2, .int x2), (3, .int z3), (4, .int z4)] [] 36) (M : zMem) (h : f_X3_kind_b72 N k36 x1 x2 x4 s0 M Q) : zV G X M [(0, zR G 38), (1, .int x1), (2, .int x2), (4, .int x4)] [.int s0] 72 := by
  unfold f_X3_kind_b72 at h
  refine zr_istore_n C [1, 2, 3, 0, 4] dX3_kind_72 rfl (by decide) rfl (lv' := [(0, zR G 38), (1, .int x1), (2, .int x2), (3, .int s0), (4, .int x4)]) ?_
  obtain ⟨v2, hv2⟩ : ∃ y : Int32, y = x4 + (1 : Int32) := ⟨_, rfl⟩
  have h := h v2 hv2
  refine zr_iinc C 4 [1, 2, 3, 4, 0] dX3_kind_73 rfl (by rw [hv2]; rfl) (by decide) rfl (lv' := [(0, zR G 38), (1, .int x1), (2, .int x2), (3, .int s0), (4, .int v2)]) ?_
  refine zr_goto C 36 dX3_kind_76 (by decide) ?_
  exact hk36 _ _ _ h
set_option maxHeartbeats 4000000 in
set_option maxRecDepth 100000 in
theorem w_X3_kind_b71 {G : zG} {X : zX} (C : zC G X cX3_kind RX3 0 5) (N : Nat) (Q : Int32 → zMem → Prop) (R : zRI G X cX3_kind Q) (x1 : Int32) (x2 : Int32) (x4 : Int32) (k36 : Int32 → Int32 → zMem → Prop) (hk36 : ∀ (z3 : Int32) (z4 : Int32) (M : zMem), k36 z3 z4 M → zV G X M [(0, zR G 38), (1, .int x1), (2, .int x2), (3, .int z3), (4, .int z4)] [] 36) (M : zMem) (h : f_X3_kind_b71 N k36 x1 x2 x4 M Q) : zV G X M [(0, zR G 38), (1, .int x1), (2, .int x2), (4, .int x4)] [] 71 := by
  unfold f_X3_kind_b71 at h
  refine zr_iconst C (v := 0) dX3_kind_71 (by decide) ?_
  exact w_X3_kind_b72 C N Q R _ _ _ _ _ hk36 _ h
set_option maxHeartbeats 4000000 in
set_option maxRecDepth 100000 in
theorem w_X3_kind_b36 {G : zG} {X : zX} (C : zC G X cX3_kind RX3 0 5) (N : Nat) (Q : Int32 → zMem → Prop) (R : zRI G X cX3_kind Q) (x1 : Int32) (x2 : Int32) (k36 : Int32 → Int32 → zMem → Prop) (hk36 : ∀ (z3 : Int32) (z4 : Int32) (M : zMem), k36 z3 z4 M → zV G X M [(0, zR G 38), (1, .int x1), (2, .int x2), (3, .int z3), (4, .int z4)] [] 36) (x3 : Int32) (x4 : Int32) (M : zMem) (h : f_X3_kind_b36 N k36 x1 x2 x3 x4 M Q) : zV G X M [(0, zR G 38), (1, .int x1), (2, .int x2), (3, .int x3), (4, .int x4)] [] 36 := by
  unfold f_X3_kind_b36 at h
  refine zr_iload C 4 dX3_kind_36 rfl ?_
  refine zr_iload_n C 1 dX3_kind_38 rfl rfl ?_
  refine zr_icmp_ge C 79 dX3_kind_39 (by decide) (fun c => ?_) (fun c => ?_)
  · have h := h.1 c
    refine zr_iload_n C 3 dX3_kind_79 rfl rfl ?_
    refine zr_if_eq C 85 dX3_kind_80 (by decide) (fun c => ?_) (fun c => ?_)
    · have h := h.1 c
      refine zr_iload_n C 1 dX3_kind_85 rfl rfl ?_
      refine zr_bipush C (v := 12) dX3_kind_86 (by decide) ?_
      refine zr_icmp_ge C 95 dX3_kind_88 (by decide) (fun c => ?_) (fun c => ?_)
      · have h := h.1 c
        refine zr_iconst C (v := 3) dX3_kind_95 (by decide) ?_
        exact R _ _ _ _ h dX3_kind_96
      · have h := h.2 c
        refine zr_iconst C (v := 2) dX3_kind_91 (by decide) ?_
        refine zr_goto C 96 dX3_kind_92 (by decide) ?_
        exact R _ _ _ _ h dX3_kind_96
    · have h := h.2 c
      refine zr_iconst C (v := 1) dX3_kind_83 (by decide) ?_
      exact R _ _ _ _ h dX3_kind_84
  · have h := h.2 c
    refine zr_iload_n C 3 dX3_kind_42 rfl rfl ?_
    refine zr_if_eq C 71 dX3_kind_43 (by decide) (fun c => ?_) (fun c => ?_)
    · have h := h.1 c
      refine zr_sub [0, 1, 2, 4] rfl (lv' := [(0, zR G 38), (1, .int x1), (2, .int x2), (4, .int x4)]) ?_
      exact w_X3_kind_b71 C N Q R _ _ _ _ hk36 _ h
    · have h := h.2 c
      refine zr_aload_n C 0 dX3_kind_46 rfl rfl ?_
      refine zg_X3_22 C zo_38 dX3_kind_47 ?_
      refine zr_aload_n C 0 dX3_kind_50 rfl rfl ?_
      refine zg_X3_41 C zo_38 dX3_kind_51 ?_
      refine zr_iload C 4 dX3_kind_54 rfl ?_
      refine zr_iald C za_45 h.1 dX3_kind_56 ?_
      have h := h.2
      refine zr_iald C za_42 h.1 dX3_kind_57 ?_
      have h := h.2
      refine zr_aload_n C 0 dX3_kind_58 rfl rfl ?_
      refine zg_X3_22 C zo_38 dX3_kind_59 ?_
      refine zr_iload_n C 2 dX3_kind_62 rfl rfl ?_
      refine zr_iald C za_42 h.1 dX3_kind_63 ?_
      have h := h.2
      refine zr_icmp_ne C 71 dX3_kind_64 (by decide) (fun c => ?_) (fun c => ?_)
      · have h := h.1 c
        refine zr_sub [0, 1, 2, 4] rfl (lv' := [(0, zR G 38), (1, .int x1), (2, .int x2), (4, .int x4)]) ?_
        exact w_X3_kind_b71 C N Q R _ _ _ _ hk36 _ h
      · have h := h.2 c
        refine zr_iconst C (v := 1) dX3_kind_67 (by decide) ?_
        refine zr_goto C 72 dX3_kind_68 (by decide) ?_
        refine zr_sub [0, 1, 2, 4] rfl (lv' := [(0, zR G 38), (1, .int x1), (2, .int x2), (4, .int x4)]) ?_
        exact w_X3_kind_b72 C N Q R _ _ _ _ _ hk36 _ h
theorem w_X3_kind_l36 {G : zG} {X : zX} (C : zC G X cX3_kind RX3 0 5) (N : Nat) (Q : Int32 → zMem → Prop) (R : zRI G X cX3_kind Q) (x1 : Int32) (x2 : Int32) : ∀ (n : Nat) (x3 : Int32) (x4 : Int32) (M : zMem), f_X3_kind_l36 N x1 x2 Q n x3 x4 M → zV G X M [(0, zR G 38), (1, .int x1), (2, .int x2), (3, .int x3), (4, .int x4)] [] 36 := by
  intro n
  induction n with
  | zero => intro x3 x4 M h; exact h.elim
  | succ n ih =>
    intro x3 x4 M h
    exact w_X3_kind_b36 C N Q R x1 x2  _ ih x3 x4 M h
set_option maxHeartbeats 4000000 in
set_option maxRecDepth 100000 in
theorem w_X3_kind_b32 {G : zG} {X : zX} (C : zC G X cX3_kind RX3 0 5) (N : Nat) (Q : Int32 → zMem → Prop) (R : zRI G X cX3_kind Q) (x1 : Int32) (x2 : Int32) (s0 : Int32) (M : zMem) (h : f_X3_kind_b32 N x1 x2 s0 M Q) : zV G X M [(0, zR G 38), (1, .int x1), (2, .int x2)] [.int s0] 32 := by
  unfold f_X3_kind_b32 at h
  refine zr_istore_n C [1, 2, 3, 0] dX3_kind_32 rfl (by decide) rfl (lv' := [(0, zR G 38), (1, .int x1), (2, .int x2), (3, .int s0)]) ?_
  refine zr_iconst C (v := 1) dX3_kind_33 (by decide) ?_
  refine zr_istore C [1, 2, 3, 4, 0] dX3_kind_34 (by decide) rfl (lv' := [(0, zR G 38), (1, .int x1), (2, .int x2), (3, .int s0), (4, .int (1 : Int32))]) ?_
  exact w_X3_kind_l36 C N Q R _ _ N _ _ _ h
set_option maxHeartbeats 4000000 in
set_option maxRecDepth 100000 in
theorem c_X3_kind (l : Launch) (G : zG) (N : Nat) (x1 : Int32) (M : zMem) (Q : Int32 → zMem → Prop) (h : f_X3_kind N x1 M Q) : zMI l G yX3_kind cX3_kind 5 .int 0 [zR G 38, .int x1] M Q := by
  refine zEI (by decide) (Nat.le_of_ble_eq_true rfl) (lv := [(0, zR G 38), (1, .int x1)]) rfl (fun X C R => ?_)
  have C : zC G X cX3_kind RX3 0 5 := C
  unfold f_X3_kind at h
  refine zr_aload_n C 0 dX3_kind_0 rfl rfl ?_
  refine zg_X3_41 C zo_38 dX3_kind_1 ?_
  refine zr_iconst C (v := 0) dX3_kind_4 (by decide) ?_
  refine zr_iald C za_45 h.1 dX3_kind_5 ?_
  have h := h.2
  refine zr_letI (fun v1 hv1 => ?_)
  have h := h v1 hv1
  refine zr_istore_n C [1, 2, 0] dX3_kind_6 rfl (by decide) rfl (lv' := [(0, zR G 38), (1, .int x1), (2, .int v1)]) ?_
  refine zr_aload_n C 0 dX3_kind_7 rfl rfl ?_
  refine zg_X3_18 C zo_38 dX3_kind_8 ?_
  refine zr_iload_n C 2 dX3_kind_11 rfl rfl ?_
  refine zr_zald C za_41 h.1 dX3_kind_12 ?_
  have h := h.2
  refine zr_if_eq C 18 dX3_kind_13 (by decide) (fun c => ?_) (fun c => ?_)
  · have h := h.1 c
    refine zr_aload_n C 0 dX3_kind_18 rfl rfl ?_
    refine zg_X3_22 C zo_38 dX3_kind_19 ?_
    refine zr_iload_n C 2 dX3_kind_22 rfl rfl ?_
    refine zr_iald C za_42 h.1 dX3_kind_23 ?_
    have h := h.2
    refine zr_if_eq C 31 dX3_kind_24 (by decide) (fun c => ?_) (fun c => ?_)
    · have h := h.1 c
      refine zr_iconst C (v := 0) dX3_kind_31 (by decide) ?_
      exact w_X3_kind_b32 C N Q R _ _ _ _ h
    · have h := h.2 c
      refine zr_iconst C (v := 1) dX3_kind_27 (by decide) ?_
      refine zr_goto C 32 dX3_kind_28 (by decide) ?_
      exact w_X3_kind_b32 C N Q R _ _ _ _ h
  · have h := h.2 c
    refine zr_iconst C (v := 0) dX3_kind_16 (by decide) ?_
    exact R _ _ _ _ h dX3_kind_17
/-! X3_width -/
set_option maxHeartbeats 4000000 in
set_option maxRecDepth 100000 in
theorem w_X3_width_b4 {G : zG} {X : zX} (C : zC G X cX3_width RX3 0 3) (N : Nat) (Q : Int32 → zMem → Prop) (R : zRI G X cX3_width Q) (x0 : Int32) (k4 : Int32 → Int32 → zMem → Prop) (hk4 : ∀ (z1 : Int32) (z2 : Int32) (M : zMem), k4 z1 z2 M → zV G X M [(0, .int x0), (1, .int z1), (2, .int z2)] [] 4) (x1 : Int32) (x2 : Int32) (M : zMem) (h : f_X3_width_b4 N k4 x0 x1 x2 M Q) : zV G X M [(0, .int x0), (1, .int x1), (2, .int x2)] [] 4 := by
  unfold f_X3_width_b4 at h
  refine zr_iload_n C 2 dX3_width_4 rfl rfl ?_
  refine zr_iconst C (v := 5) dX3_width_5 (by decide) ?_
  refine zr_icmp_ge C 27 dX3_width_6 (by decide) (fun c => ?_) (fun c => ?_)
  · have h := h.1 c
    refine zr_iload_n C 1 dX3_width_27 rfl rfl ?_
    exact R _ _ _ _ h dX3_width_28
  · have h := h.2 c
    refine zr_iload_n C 0 dX3_width_9 rfl rfl ?_
    refine zr_iload_n C 1 dX3_width_10 rfl rfl ?_
    refine zr_imul C dX3_width_11 ?_
    refine zr_bipush C (v := 32) dX3_width_12 (by decide) ?_
    refine zr_icmp_ge C 27 dX3_width_14 (by decide) (fun c => ?_) (fun c => ?_)
    · have h := h.1 c
      refine zr_iload_n C 1 dX3_width_27 rfl rfl ?_
      exact R _ _ _ _ h dX3_width_28
    · have h := h.2 c
      refine zr_iload_n C 1 dX3_width_17 rfl rfl ?_
      refine zr_iconst C (v := 2) dX3_width_18 (by decide) ?_
      refine zr_imul C dX3_width_19 ?_
      refine zr_letI (fun v1 hv1 => ?_)
      have h := h v1 hv1
      refine zr_istore_n C [1, 0, 2] dX3_width_20 rfl (by decide) rfl (lv' := [(0, .int x0), (1, .int v1), (2, .int x2)]) ?_
      obtain ⟨v2, hv2⟩ : ∃ y : Int32, y = x2 + (1 : Int32) := ⟨_, rfl⟩
      have h := h v2 hv2
      refine zr_iinc C 2 [1, 2, 0] dX3_width_21 rfl (by rw [hv2]; rfl) (by decide) rfl (lv' := [(0, .int x0), (1, .int v1), (2, .int v2)]) ?_
      refine zr_goto C 4 dX3_width_24 (by decide) ?_
      exact hk4 _ _ _ h
theorem w_X3_width_l4 {G : zG} {X : zX} (C : zC G X cX3_width RX3 0 3) (N : Nat) (Q : Int32 → zMem → Prop) (R : zRI G X cX3_width Q) (x0 : Int32) : ∀ (n : Nat) (x1 : Int32) (x2 : Int32) (M : zMem), f_X3_width_l4 N x0 Q n x1 x2 M → zV G X M [(0, .int x0), (1, .int x1), (2, .int x2)] [] 4 := by
  intro n
  induction n with
  | zero => intro x1 x2 M h; exact h.elim
  | succ n ih =>
    intro x1 x2 M h
    exact w_X3_width_b4 C N Q R x0  _ ih x1 x2 M h
set_option maxHeartbeats 4000000 in
set_option maxRecDepth 100000 in
theorem c_X3_width (l : Launch) (G : zG) (N : Nat) (x0 : Int32) (M : zMem) (Q : Int32 → zMem → Prop) (h : f_X3_width N x0 M Q) : zMI l G yX3_width cX3_width 3 .int 0 [.int x0] M Q := by
  refine zEI (by decide) (Nat.le_of_ble_eq_true rfl) (lv := [(0, .int x0)]) rfl (fun X C R => ?_)
  have C : zC G X cX3_width RX3 0 3 := C
  unfold f_X3_width at h
  refine zr_iconst C (v := 1) dX3_width_0 (by decide) ?_
  refine zr_istore_n C [1, 0] dX3_width_1 rfl (by decide) rfl (lv' := [(0, .int x0), (1, .int (1 : Int32))]) ?_
  refine zr_iconst C (v := 0) dX3_width_2 (by decide) ?_
  refine zr_istore_n C [1, 2, 0] dX3_width_3 rfl (by decide) rfl (lv' := [(0, .int x0), (1, .int (1 : Int32)), (2, .int (0 : Int32))]) ?_
  exact w_X3_width_l4 C N Q R _ N _ _ _ h
/-! X3_tellStretch -/
set_option maxHeartbeats 4000000 in
set_option maxRecDepth 100000 in
theorem w_X3_tellStretch_b10 {G : zG} {X : zX} (C : zC G X cX3_tellStretch RX3 1 10) (N : Nat) (Q : zMem → Prop) (R : zRU G X cX3_tellStretch Q) (x1 : Int32) (a2 : Nat) (ha2 : zkd a2 = 8) (x3 : Int32) (k10 : Int32 → Int32 → Int32 → zMem → Prop) (hk10 : ∀ (z4 : Int32) (z5 : Int32) (z6 : Int32) (M : zMem), k10 z4 z5 z6 M → zV G X M [(0, zR G 38), (1, .int x1), (2, zR G a2), (3, .int x3), (4, .int z4), (5, .int z5), (6, .int z6)] [] 10) (x4 : Int32) (x5 : Int32) (x6 : Int32) (M : zMem) (h : f_X3_tellStretch_b10 N k10 x1 a2 x3 x4 x5 x6 M Q) : zV G X M [(0, zR G 38), (1, .int x1), (2, zR G a2), (3, .int x3), (4, .int x4), (5, .int x5), (6, .int x6)] [] 10 := by
  unfold f_X3_tellStretch_b10 at h
  refine zr_iload C 6 dX3_tellStretch_10 rfl ?_
  refine zr_iload_n C 3 dX3_tellStretch_12 rfl rfl ?_
  refine zr_icmp_ge C 71 dX3_tellStretch_13 (by decide) (fun c => ?_) (fun c => ?_)
  · have h := h.1 c
    refine zr_aload_n C 0 dX3_tellStretch_71 rfl rfl ?_
    refine zg_X3_38 C zo_38 dX3_tellStretch_72 ?_
    refine zr_iload_n C 1 dX3_tellStretch_75 rfl rfl ?_
    refine zr_iload C 4 dX3_tellStretch_76 rfl ?_
    refine zr_iast C za_44 h.1 dX3_tellStretch_78 ?_
    have h := h.2
    refine zr_letM (fun M1 hM1 => ?_)
    have h := h M1 hM1
    refine zr_aload_n C 0 dX3_tellStretch_79 rfl rfl ?_
    refine zg_X3_38 C zo_38 dX3_tellStretch_80 ?_
    refine zr_iload_n C 1 dX3_tellStretch_83 rfl rfl ?_
    refine zr_iconst C (v := 1) dX3_tellStretch_84 (by decide) ?_
    refine zr_iadd C dX3_tellStretch_85 ?_
    refine zr_iload C 5 dX3_tellStretch_86 rfl ?_
    refine zr_iast C za_44 h.1 dX3_tellStretch_88 ?_
    have h := h.2
    refine zr_letM (fun M2 hM2 => ?_)
    have h := h M2 hM2
    exact R _ _ _ h dX3_tellStretch_89
  · have h := h.2 c
    refine zr_aload_n C 2 dX3_tellStretch_16 rfl rfl ?_
    refine zr_aload_n C 0 dX3_tellStretch_17 rfl rfl ?_
    refine zg_X3_41 C zo_38 dX3_tellStretch_18 ?_
    refine zr_iload C 6 dX3_tellStretch_21 rfl ?_
    refine zr_iald C za_45 h.1 dX3_tellStretch_23 ?_
    have h := h.2
    refine zr_iald C ⟨ha2, rfl⟩ h.1 dX3_tellStretch_24 ?_
    have h := h.2
    refine zr_letI (fun v3 hv3 => ?_)
    have h := h v3 hv3
    refine zr_istore C [1, 2, 3, 4, 5, 6, 7, 0] dX3_tellStretch_25 (by decide) rfl (lv' := [(0, zR G 38), (1, .int x1), (2, zR G a2), (3, .int x3), (4, .int x4), (5, .int x5), (6, .int x6), (7, .int v3)]) ?_
    refine zr_iload C 7 dX3_tellStretch_27 rfl ?_
    refine zcI (zrunS C (rest := []) (c_X3_width X.2.1 G N _ _ _ h) zk_X3_width zl_X3_109 (by decide) (by decide) rfl (Nat.le_of_ble_eq_true rfl) rfl dX3_tellStretch_29) (fun r4 M5 h => ?_)
    refine zr_istore C [1, 2, 3, 4, 5, 6, 7, 8, 0] dX3_tellStretch_32 (by decide) rfl (lv' := [(0, zR G 38), (1, .int x1), (2, zR G a2), (3, .int x3), (4, .int x4), (5, .int x5), (6, .int x6), (7, .int v3), (8, .int r4)]) ?_
    refine zr_iload C 7 dX3_tellStretch_34 rfl ?_
    refine zr_iload C 8 dX3_tellStretch_36 rfl ?_
    refine zr_imul C dX3_tellStretch_38 ?_
    refine zr_bipush C (v := 32) dX3_tellStretch_39 (by decide) ?_
    refine zr_isub C dX3_tellStretch_41 ?_
    refine zr_letI (fun v6 hv6 => ?_)
    have h := h v6 hv6
    refine zr_istore C [1, 2, 3, 4, 5, 6, 7, 9, 0] dX3_tellStretch_42 (by decide) rfl (lv' := [(0, zR G 38), (1, .int x1), (2, zR G a2), (3, .int x3), (4, .int x4), (5, .int x5), (6, .int x6), (8, .int r4), (9, .int v6)]) ?_
    refine zr_iload C 4 dX3_tellStretch_44 rfl ?_
    refine zr_iload C 8 dX3_tellStretch_46 rfl ?_
    refine zr_mmin C zlm_X3_112 zw2_mmin (by decide) (Nat.le_of_ble_eq_true rfl) dX3_tellStretch_48 ?_
    refine zr_letI (fun v7 hv7 => ?_)
    have h := h v7 hv7
    refine zr_istore C [1, 2, 3, 4, 0, 5, 6, 7, 8] dX3_tellStretch_51 (by decide) rfl (lv' := [(0, zR G 38), (1, .int x1), (2, zR G a2), (3, .int x3), (4, .int v7), (5, .int x5), (6, .int x6), (8, .int r4), (9, .int v6)]) ?_
    refine zr_iload C 5 dX3_tellStretch_53 rfl ?_
    refine zr_iload C 8 dX3_tellStretch_55 rfl ?_
    refine zr_iload C 7 dX3_tellStretch_57 rfl ?_
    refine zr_iadd C dX3_tellStretch_59 ?_
    refine zr_mmax C zlm_X3_116 zw2_mmax (by decide) (Nat.le_of_ble_eq_true rfl) dX3_tellStretch_60 ?_
    refine zr_letI (fun v8 hv8 => ?_)
    have h := h v8 hv8
    refine zr_istore C [1, 2, 3, 4, 5, 0, 6] dX3_tellStretch_63 (by decide) rfl (lv' := [(0, zR G 38), (1, .int x1), (2, zR G a2), (3, .int x3), (4, .int v7), (5, .int v8), (6, .int x6)]) ?_
    obtain ⟨v9, hv9⟩ : ∃ y : Int32, y = x6 + (1 : Int32) := ⟨_, rfl⟩
    have h := h v9 hv9
    refine zr_iinc C 6 [1, 2, 3, 4, 5, 6, 0] dX3_tellStretch_65 rfl (by rw [hv9]; rfl) (by decide) rfl (lv' := [(0, zR G 38), (1, .int x1), (2, zR G a2), (3, .int x3), (4, .int v7), (5, .int v8), (6, .int v9)]) ?_
    refine zr_goto C 10 dX3_tellStretch_68 (by decide) ?_
    exact hk10 _ _ _ _ h
theorem w_X3_tellStretch_l10 {G : zG} {X : zX} (C : zC G X cX3_tellStretch RX3 1 10) (N : Nat) (Q : zMem → Prop) (R : zRU G X cX3_tellStretch Q) (x1 : Int32) (a2 : Nat) (ha2 : zkd a2 = 8) (x3 : Int32) : ∀ (n : Nat) (x4 : Int32) (x5 : Int32) (x6 : Int32) (M : zMem), f_X3_tellStretch_l10 N x1 a2 x3 Q n x4 x5 x6 M → zV G X M [(0, zR G 38), (1, .int x1), (2, zR G a2), (3, .int x3), (4, .int x4), (5, .int x5), (6, .int x6)] [] 10 := by
  intro n
  induction n with
  | zero => intro x4 x5 x6 M h; exact h.elim
  | succ n ih =>
    intro x4 x5 x6 M h
    exact w_X3_tellStretch_b10 C N Q R x1 a2 ha2 x3  _ ih x4 x5 x6 M h
set_option maxHeartbeats 4000000 in
set_option maxRecDepth 100000 in
theorem c_X3_tellStretch (l : Launch) (G : zG) (N : Nat) (x1 : Int32) (a2 : Nat) (ha2 : zkd a2 = 8) (x3 : Int32) (M : zMem) (Q : zMem → Prop) (h : f_X3_tellStretch N x1 a2 x3 M Q) : zMU l G yX3_tellStretch cX3_tellStretch 10 1 [zR G 38, .int x1, zR G a2, .int x3] M Q := by
  refine zEU (by decide) (Nat.le_of_ble_eq_true rfl) (lv := [(0, zR G 38), (1, .int x1), (2, zR G a2), (3, .int x3)]) rfl (fun X C R => ?_)
  have C : zC G X cX3_tellStretch RX3 1 10 := C
  unfold f_X3_tellStretch at h
  refine zr_bipush C (v := 32) dX3_tellStretch_0 (by decide) ?_
  refine zr_istore C [1, 2, 3, 4, 0] dX3_tellStretch_2 (by decide) rfl (lv' := [(0, zR G 38), (1, .int x1), (2, zR G a2), (3, .int x3), (4, .int (32 : Int32))]) ?_
  refine zr_iconst C (v := 0) dX3_tellStretch_4 (by decide) ?_
  refine zr_istore C [1, 2, 3, 4, 5, 0] dX3_tellStretch_5 (by decide) rfl (lv' := [(0, zR G 38), (1, .int x1), (2, zR G a2), (3, .int x3), (4, .int (32 : Int32)), (5, .int (0 : Int32))]) ?_
  refine zr_iconst C (v := 0) dX3_tellStretch_7 (by decide) ?_
  refine zr_istore C [1, 2, 3, 4, 5, 6, 0] dX3_tellStretch_8 (by decide) rfl (lv' := [(0, zR G 38), (1, .int x1), (2, zR G a2), (3, .int x3), (4, .int (32 : Int32)), (5, .int (0 : Int32)), (6, .int (0 : Int32))]) ?_
  exact w_X3_tellStretch_l10 C N Q R _ _ ha2 _ N _ _ _ _ h
/-! X3_tell -/
set_option maxHeartbeats 4000000 in
set_option maxRecDepth 100000 in
theorem c_X3_tell (l : Launch) (G : zG) (N : Nat) (x1 : Int32) (M : zMem) (Q : zMem → Prop) (h : f_X3_tell N x1 M Q) : zMU l G yX3_tell cX3_tell 3 2 [zR G 38, .int x1] M Q := by
  refine zEU (by decide) (Nat.le_of_ble_eq_true rfl) (lv := [(0, zR G 38), (1, .int x1)]) rfl (fun X C R => ?_)
  have C : zC G X cX3_tell RX3 2 3 := C
  unfold f_X3_tell at h
  refine zr_aload_n C 0 dX3_tell_0 rfl rfl ?_
  refine zg_X3_35 C zo_38 dX3_tell_1 ?_
  refine zr_bipush C (v := 6) dX3_tell_4 (by decide) ?_
  refine zr_imul C dX3_tell_6 ?_
  refine zr_letI (fun v1 hv1 => ?_)
  have h := h v1 hv1
  refine zr_istore_n C [1, 2, 0] dX3_tell_7 rfl (by decide) rfl (lv' := [(0, zR G 38), (1, .int x1), (2, .int v1)]) ?_
  refine zr_aload_n C 0 dX3_tell_8 rfl rfl ?_
  refine zg_X3_38 C zo_38 dX3_tell_9 ?_
  refine zr_iload_n C 2 dX3_tell_12 rfl rfl ?_
  refine zr_aload_n C 0 dX3_tell_13 rfl rfl ?_
  refine zr_iload_n C 1 dX3_tell_14 rfl rfl ?_
  refine zcI (zrunV C (rest := [.int v1, zR G 44]) (c_X3_kind X.2.1 G N _ _ _ h) zk_X3_kind zl_X3_102 (zRc_3 zo_38) (by decide) (by decide) rfl (Nat.le_of_ble_eq_true rfl) rfl dX3_tell_15) (fun r2 M3 h => ?_)
  refine zr_iast C za_44 h.1 dX3_tell_18 ?_
  have h := h.2
  refine zr_letM (fun M4 hM4 => ?_)
  have h := h M4 hM4
  refine zr_aload_n C 0 dX3_tell_19 rfl rfl ?_
  refine zg_X3_38 C zo_38 dX3_tell_20 ?_
  refine zr_iload_n C 2 dX3_tell_23 rfl rfl ?_
  refine zr_iconst C (v := 1) dX3_tell_24 (by decide) ?_
  refine zr_iadd C dX3_tell_25 ?_
  refine zr_iload_n C 1 dX3_tell_26 rfl rfl ?_
  refine zr_iast C za_44 h.1 dX3_tell_27 ?_
  have h := h.2
  refine zr_letM (fun M5 hM5 => ?_)
  have h := h M5 hM5
  refine zr_aload_n C 0 dX3_tell_28 rfl rfl ?_
  refine zr_iload_n C 2 dX3_tell_29 rfl rfl ?_
  refine zr_iconst C (v := 2) dX3_tell_30 (by decide) ?_
  refine zr_iadd C dX3_tell_31 ?_
  refine zr_aload_n C 0 dX3_tell_32 rfl rfl ?_
  refine zg_X3_9 C zo_38 dX3_tell_33 ?_
  refine zr_iload_n C 1 dX3_tell_36 rfl rfl ?_
  refine zcU (zrunV C (rest := []) (c_X3_tellStretch X.2.1 G N _ _ za_39.1 _ _ _ h) zk_X3_tellStretch zl_X3_105 (zRc_3 zo_38) (by decide) (by decide) rfl (Nat.le_of_ble_eq_true rfl) rfl dX3_tell_37) (fun M7 h => ?_)
  refine zr_aload_n C 0 dX3_tell_40 rfl rfl ?_
  refine zr_iload_n C 2 dX3_tell_41 rfl rfl ?_
  refine zr_iconst C (v := 4) dX3_tell_42 (by decide) ?_
  refine zr_iadd C dX3_tell_43 ?_
  refine zr_aload_n C 0 dX3_tell_44 rfl rfl ?_
  refine zg_X3_15 C zo_38 dX3_tell_45 ?_
  refine zr_iload_n C 1 dX3_tell_48 rfl rfl ?_
  refine zcU (zrunV C (rest := []) (c_X3_tellStretch X.2.1 G N _ _ za_40.1 _ _ _ h) zk_X3_tellStretch zl_X3_105 (zRc_3 zo_38) (by decide) (by decide) rfl (Nat.le_of_ble_eq_true rfl) rfl dX3_tell_49) (fun M9 h => ?_)
  exact R _ _ _ h dX3_tell_52
/-! X3_gatherSpots -/
set_option maxHeartbeats 4000000 in
set_option maxRecDepth 100000 in
theorem w_X3_gatherSpots_b39 {G : zG} {X : zX} (C : zC G X cX3_gatherSpots RX3 3 2) (N : Nat) (Q : zMem → Prop) (R : zRU G X cX3_gatherSpots Q) (x1 : Int32) (k2 : Int32 → zMem → Prop) (hk2 : ∀ (z1 : Int32) (M : zMem), k2 z1 M → zV G X M [(0, zR G 38), (1, .int z1)] [] 2) (M : zMem) (h : f_X3_gatherSpots_b39 N k2 x1 M Q) : zV G X M [(0, zR G 38), (1, .int x1)] [] 39 := by
  unfold f_X3_gatherSpots_b39 at h
  obtain ⟨v1, hv1⟩ : ∃ y : Int32, y = x1 + (1 : Int32) := ⟨_, rfl⟩
  have h := h v1 hv1
  refine zr_iinc C 1 [1, 0] dX3_gatherSpots_39 rfl (by rw [hv1]; rfl) (by decide) rfl (lv' := [(0, zR G 38), (1, .int v1)]) ?_
  refine zr_goto C 2 dX3_gatherSpots_42 (by decide) ?_
  exact hk2 _ _ h
set_option maxHeartbeats 4000000 in
set_option maxRecDepth 100000 in
theorem w_X3_gatherSpots_b2 {G : zG} {X : zX} (C : zC G X cX3_gatherSpots RX3 3 2) (N : Nat) (Q : zMem → Prop) (R : zRU G X cX3_gatherSpots Q) (k2 : Int32 → zMem → Prop) (hk2 : ∀ (z1 : Int32) (M : zMem), k2 z1 M → zV G X M [(0, zR G 38), (1, .int z1)] [] 2) (x1 : Int32) (M : zMem) (h : f_X3_gatherSpots_b2 N k2 x1 M Q) : zV G X M [(0, zR G 38), (1, .int x1)] [] 2 := by
  unfold f_X3_gatherSpots_b2 at h
  refine zr_iload_n C 1 dX3_gatherSpots_2 rfl rfl ?_
  refine zr_aload_n C 0 dX3_gatherSpots_3 rfl rfl ?_
  refine zg_X3_28 C zo_38 dX3_gatherSpots_4 ?_
  refine zr_icmp_ge C 45 dX3_gatherSpots_7 (by decide) (fun c => ?_) (fun c => ?_)
  · have h := h.1 c
    exact R _ _ _ h dX3_gatherSpots_45
  · have h := h.2 c
    refine zr_aload_n C 0 dX3_gatherSpots_10 rfl rfl ?_
    refine zg_X3_25 C zo_38 dX3_gatherSpots_11 ?_
    refine zr_iload_n C 1 dX3_gatherSpots_14 rfl rfl ?_
    refine zr_iald C za_43 h.1 dX3_gatherSpots_15 ?_
    have h := h.2
    refine zr_iconst C (v := -1) dX3_gatherSpots_16 (by decide) ?_
    refine zr_icmp_ne C 39 dX3_gatherSpots_17 (by decide) (fun c => ?_) (fun c => ?_)
    · have h := h.1 c
      exact w_X3_gatherSpots_b39 C N Q R _ _ hk2 _ h
    · have h := h.2 c
      refine zr_aload_n C 0 dX3_gatherSpots_20 rfl rfl ?_
      refine zr_aload_n C 0 dX3_gatherSpots_21 rfl rfl ?_
      refine zr_iload_n C 1 dX3_gatherSpots_22 rfl rfl ?_
      refine zcI (zrunV C (rest := [zR G 38]) (c_X3_gather X.2.1 G N _ _ _ h) zk_X3_gather zl_X3_85 (zRc_3 zo_38) (by decide) (by decide) rfl (Nat.le_of_ble_eq_true rfl) rfl dX3_gatherSpots_23) (fun r2 M3 h => ?_)
      refine zcU (zrunV C (rest := []) (c_X3_tell X.2.1 G N _ _ _ h) zk_X3_tell zl_X3_89 (zRc_3 zo_38) (by decide) (by decide) rfl (Nat.le_of_ble_eq_true rfl) rfl dX3_gatherSpots_26) (fun M5 h => ?_)
      refine zr_aload_n C 0 dX3_gatherSpots_29 rfl rfl ?_
      refine zr_dup C rfl dX3_gatherSpots_30 ?_
      refine zg_X3_35 C zo_38 dX3_gatherSpots_31 ?_
      refine zr_iconst C (v := 1) dX3_gatherSpots_34 (by decide) ?_
      refine zr_iadd C dX3_gatherSpots_35 ?_
      refine zp_X3_35 C zo_38 dX3_gatherSpots_36 ?_
      refine zr_letM (fun M6 hM6 => ?_)
      have h := h M6 hM6
      exact w_X3_gatherSpots_b39 C N Q R _ _ hk2 _ h
theorem w_X3_gatherSpots_l2 {G : zG} {X : zX} (C : zC G X cX3_gatherSpots RX3 3 2) (N : Nat) (Q : zMem → Prop) (R : zRU G X cX3_gatherSpots Q)  : ∀ (n : Nat) (x1 : Int32) (M : zMem), f_X3_gatherSpots_l2 N  Q n x1 M → zV G X M [(0, zR G 38), (1, .int x1)] [] 2 := by
  intro n
  induction n with
  | zero => intro x1 M h; exact h.elim
  | succ n ih =>
    intro x1 M h
    exact w_X3_gatherSpots_b2 C N Q R   _ ih x1 M h
set_option maxHeartbeats 4000000 in
set_option maxRecDepth 100000 in
theorem c_X3_gatherSpots (l : Launch) (G : zG) (N : Nat)  (M : zMem) (Q : zMem → Prop) (h : f_X3_gatherSpots N  M Q) : zMU l G yX3_gatherSpots cX3_gatherSpots 2 3 [zR G 38] M Q := by
  refine zEU (by decide) (Nat.le_of_ble_eq_true rfl) (lv := [(0, zR G 38)]) rfl (fun X C R => ?_)
  have C : zC G X cX3_gatherSpots RX3 3 2 := C
  unfold f_X3_gatherSpots at h
  refine zr_iconst C (v := 0) dX3_gatherSpots_0 (by decide) ?_
  refine zr_istore_n C [1, 0] dX3_gatherSpots_1 rfl (by decide) rfl (lv' := [(0, zR G 38), (1, .int (0 : Int32))]) ?_
  exact w_X3_gatherSpots_l2 C N Q R  N _ _ h
/-! X3_adds -/
set_option maxHeartbeats 4000000 in
set_option maxRecDepth 100000 in
theorem c_X3_adds (l : Launch) (G : zG) (N : Nat) (x1 : Int32) (x2 : Int32) (x3 : Int32) (x4 : Int32) (M : zMem) (Q : zMem → Prop) (h : f_X3_adds N x1 x2 x3 x4 M Q) : zMU l G yX3_adds cX3_adds 5 1 [zR G 38, .int x1, .int x2, .int x3, .int x4] M Q := by
  refine zEU (by decide) (Nat.le_of_ble_eq_true rfl) (lv := [(0, zR G 38), (1, .int x1), (2, .int x2), (3, .int x3), (4, .int x4)]) rfl (fun X C R => ?_)
  have C : zC G X cX3_adds RX3 1 5 := C
  unfold f_X3_adds at h
  refine zr_aload_n C 0 dX3_adds_0 rfl rfl ?_
  refine zcI (zrunV C (rest := []) (c_X3_isOver X.2.1 G N  _ _ h) zk_X3_isOver zl_X3_57 (zRc_3 zo_38) (by decide) (by decide) rfl (Nat.le_of_ble_eq_true rfl) rfl dX3_adds_1) (fun r1 M2 h => ?_)
  refine zr_if_eq C 8 dX3_adds_4 (by decide) (fun c => ?_) (fun c => ?_)
  · have h := h.1 c
    refine zr_aload_n C 0 dX3_adds_8 rfl rfl ?_
    refine zg_X3_9 C zo_38 dX3_adds_9 ?_
    refine zr_aload_n C 0 dX3_adds_12 rfl rfl ?_
    refine zg_X3_28 C zo_38 dX3_adds_13 ?_
    refine zr_iload_n C 1 dX3_adds_16 rfl rfl ?_
    refine zr_iast C za_39 h.1 dX3_adds_17 ?_
    have h := h.2
    refine zr_letM (fun M3 hM3 => ?_)
    have h := h M3 hM3
    refine zr_aload_n C 0 dX3_adds_18 rfl rfl ?_
    refine zg_X3_15 C zo_38 dX3_adds_19 ?_
    refine zr_aload_n C 0 dX3_adds_22 rfl rfl ?_
    refine zg_X3_28 C zo_38 dX3_adds_23 ?_
    refine zr_iload_n C 2 dX3_adds_26 rfl rfl ?_
    refine zr_iast C za_40 h.1 dX3_adds_27 ?_
    have h := h.2
    refine zr_letM (fun M4 hM4 => ?_)
    have h := h M4 hM4
    refine zr_aload_n C 0 dX3_adds_28 rfl rfl ?_
    refine zg_X3_22 C zo_38 dX3_adds_29 ?_
    refine zr_aload_n C 0 dX3_adds_32 rfl rfl ?_
    refine zg_X3_28 C zo_38 dX3_adds_33 ?_
    refine zr_iload_n C 3 dX3_adds_36 rfl rfl ?_
    refine zr_iast C za_42 h.1 dX3_adds_37 ?_
    have h := h.2
    refine zr_letM (fun M5 hM5 => ?_)
    have h := h M5 hM5
    refine zr_aload_n C 0 dX3_adds_38 rfl rfl ?_
    refine zg_X3_18 C zo_38 dX3_adds_39 ?_
    refine zr_aload_n C 0 dX3_adds_42 rfl rfl ?_
    refine zg_X3_28 C zo_38 dX3_adds_43 ?_
    refine zr_iload C 4 dX3_adds_46 rfl ?_
    refine zr_zast C za_41 h.1 dX3_adds_48 ?_
    have h := h.2
    refine zr_letM (fun M6 hM6 => ?_)
    have h := h M6 hM6
    refine zr_aload_n C 0 dX3_adds_49 rfl rfl ?_
    refine zg_X3_25 C zo_38 dX3_adds_50 ?_
    refine zr_aload_n C 0 dX3_adds_53 rfl rfl ?_
    refine zg_X3_28 C zo_38 dX3_adds_54 ?_
    refine zr_iconst C (v := -1) dX3_adds_57 (by decide) ?_
    refine zr_iast C za_43 h.1 dX3_adds_58 ?_
    have h := h.2
    refine zr_letM (fun M7 hM7 => ?_)
    have h := h M7 hM7
    refine zr_aload_n C 0 dX3_adds_59 rfl rfl ?_
    refine zr_dup C rfl dX3_adds_60 ?_
    refine zg_X3_28 C zo_38 dX3_adds_61 ?_
    refine zr_iconst C (v := 1) dX3_adds_64 (by decide) ?_
    refine zr_iadd C dX3_adds_65 ?_
    refine zp_X3_28 C zo_38 dX3_adds_66 ?_
    refine zr_letM (fun M8 hM8 => ?_)
    have h := h M8 hM8
    refine zr_iload C 4 dX3_adds_69 rfl ?_
    refine zr_if_eq C 84 dX3_adds_71 (by decide) (fun c => ?_) (fun c => ?_)
    · have h := h.1 c
      exact R _ _ _ h dX3_adds_84
    · have h := h.2 c
      refine zr_aload_n C 0 dX3_adds_74 rfl rfl ?_
      refine zr_dup C rfl dX3_adds_75 ?_
      refine zg_X3_32 C zo_38 dX3_adds_76 ?_
      refine zr_iconst C (v := 1) dX3_adds_79 (by decide) ?_
      refine zr_iadd C dX3_adds_80 ?_
      refine zp_X3_32 C zo_38 dX3_adds_81 ?_
      refine zr_letM (fun M9 hM9 => ?_)
      have h := h M9 hM9
      exact R _ _ _ h dX3_adds_84
  · have h := h.2 c
    exact R _ _ _ h dX3_adds_7
/-! X4_placeByBand -/
set_option maxHeartbeats 4000000 in
set_option maxRecDepth 100000 in
theorem c_X4_placeByBand (l : Launch) (G : zG) (N : Nat) (a0 : Nat) (ha0 : zkd a0 = 0) (x1 : Int32) (x2 : Int64) (M : zMem) (Q : Int32 → zMem → Prop) (h : f_X4_placeByBand N a0 x1 x2 M Q) : zMI l G yX4_placeByBand cX4_placeByBand 4 .int 0 [zR G a0, .int x1, .long x2] M Q := by
  refine zEI (by decide) (Nat.le_of_ble_eq_true rfl) (lv := [(0, zR G a0), (1, .int x1), (2, .long x2)]) rfl (fun X C R => ?_)
  have C : zC G X cX4_placeByBand RX4 0 4 := C
  unfold f_X4_placeByBand at h
  refine zr_lload_n C 2 dX4_placeByBand_0 rfl rfl ?_
  refine zr_aload_n C 0 dX4_placeByBand_1 rfl rfl ?_
  refine zg_X4_19 C ha0 dX4_placeByBand_2 ?_
  refine zr_iload_n C 1 dX4_placeByBand_5 rfl rfl ?_
  refine zr_lald C (zkd0_5 ha0) h.1 dX4_placeByBand_6 ?_
  have h := h.2
  refine zr_lcmp_le C 13 dX4_placeByBand_7 dX4_placeByBand_8 (by decide) (fun c => ?_) (fun c => ?_)
  · have h := h.1 c
    refine zr_lload_n C 2 dX4_placeByBand_13 rfl rfl ?_
    refine zr_aload_n C 0 dX4_placeByBand_14 rfl rfl ?_
    refine zg_X4_23 C ha0 dX4_placeByBand_15 ?_
    refine zr_iload_n C 1 dX4_placeByBand_18 rfl rfl ?_
    refine zr_lald C (zkd0_4 ha0) h.1 dX4_placeByBand_19 ?_
    have h := h.2
    refine zr_lcmp_ge C 28 dX4_placeByBand_20 dX4_placeByBand_21 (by decide) (fun c => ?_) (fun c => ?_)
    · have h := h.1 c
      refine zr_iconst C (v := 0) dX4_placeByBand_28 (by decide) ?_
      exact R _ _ _ _ h dX4_placeByBand_29
    · have h := h.2 c
      refine zr_iconst C (v := -1) dX4_placeByBand_24 (by decide) ?_
      refine zr_goto C 29 dX4_placeByBand_25 (by decide) ?_
      exact R _ _ _ _ h dX4_placeByBand_29
  · have h := h.2 c
    refine zr_iconst C (v := 1) dX4_placeByBand_11 (by decide) ?_
    exact R _ _ _ _ h dX4_placeByBand_12
/-! X4_endsBeside -/
set_option maxHeartbeats 4000000 in
set_option maxRecDepth 100000 in
theorem c_X4_endsBeside (l : Launch) (G : zG) (N : Nat) (a0 : Nat) (ha0 : zkd a0 = 0) (x1 : Int32) (a2 : Nat) (ha2 : zkd a2 = 0) (x3 : Int32) (M : zMem) (Q : Int32 → zMem → Prop) (h : f_X4_endsBeside N a0 x1 a2 x3 M Q) : zMI l G yX4_endsBeside cX4_endsBeside 6 .boolean 1 [zR G a0, .int x1, zR G a2, .int x3] M Q := by
  refine zEZ (by decide) (Nat.le_of_ble_eq_true rfl) (lv := [(0, zR G a0), (1, .int x1), (2, zR G a2), (3, .int x3)]) rfl (fun X C R => ?_)
  have C : zC G X cX4_endsBeside RX4 1 6 := C
  unfold f_X4_endsBeside at h
  refine zr_aload_n C 0 dX4_endsBeside_0 rfl rfl ?_
  refine zr_iload_n C 1 dX4_endsBeside_1 rfl rfl ?_
  refine zr_aload_n C 0 dX4_endsBeside_2 rfl rfl ?_
  refine zr_iload_n C 1 dX4_endsBeside_3 rfl rfl ?_
  refine zr_aload_n C 2 dX4_endsBeside_4 rfl rfl ?_
  refine zr_iload_n C 3 dX4_endsBeside_5 rfl rfl ?_
  refine zr_iconst C (v := 0) dX4_endsBeside_6 (by decide) ?_
  refine zcL (zrunS C (rest := [.int x1, zR G a0]) (c_X4_side X.2.1 G N _ ha0 _ _ ha2 _ _ _ _ h) zk_X4_side zl_X4_43 (by decide) (by decide) rfl (Nat.le_of_ble_eq_true rfl) rfl dX4_endsBeside_7) (fun r1 M2 h => ?_)
  refine zcI (zrunS C (rest := []) (c_X4_placeByBand X.2.1 G N _ ha0 _ _ _ _ h) zk_X4_placeByBand zl_X4_47 (by decide) (by decide) rfl (Nat.le_of_ble_eq_true rfl) rfl dX4_endsBeside_10) (fun r3 M4 h => ?_)
  refine zr_istore C [1, 2, 3, 4, 0] dX4_endsBeside_13 (by decide) rfl (lv' := [(0, zR G a0), (1, .int x1), (2, zR G a2), (3, .int x3), (4, .int r3)]) ?_
  refine zr_aload_n C 0 dX4_endsBeside_15 rfl rfl ?_
  refine zr_iload_n C 1 dX4_endsBeside_16 rfl rfl ?_
  refine zr_aload_n C 0 dX4_endsBeside_17 rfl rfl ?_
  refine zr_iload_n C 1 dX4_endsBeside_18 rfl rfl ?_
  refine zr_aload_n C 2 dX4_endsBeside_19 rfl rfl ?_
  refine zr_iload_n C 3 dX4_endsBeside_20 rfl rfl ?_
  refine zr_iconst C (v := 3) dX4_endsBeside_21 (by decide) ?_
  refine zcL (zrunS C (rest := [.int x1, zR G a0]) (c_X4_side X.2.1 G N _ ha0 _ _ ha2 _ _ _ _ h) zk_X4_side zl_X4_43 (by decide) (by decide) rfl (Nat.le_of_ble_eq_true rfl) rfl dX4_endsBeside_22) (fun r5 M6 h => ?_)
  refine zcI (zrunS C (rest := []) (c_X4_placeByBand X.2.1 G N _ ha0 _ _ _ _ h) zk_X4_placeByBand zl_X4_47 (by decide) (by decide) rfl (Nat.le_of_ble_eq_true rfl) rfl dX4_endsBeside_25) (fun r7 M8 h => ?_)
  refine zr_istore C [5, 0] dX4_endsBeside_28 (by decide) rfl (lv' := [(4, .int r3), (5, .int r7)]) ?_
  refine zr_iload C 0 dX4_endsBeside_30 rfl ?_
  refine zr_iload C 1 dX4_endsBeside_32 rfl ?_
  refine zr_imul C dX4_endsBeside_34 ?_
  refine zr_if_ge C 42 dX4_endsBeside_35 (by decide) (fun c => ?_) (fun c => ?_)
  · have h := h.1 c
    refine zr_iconst C (v := 0) dX4_endsBeside_42 (by decide) ?_
    exact R _ _ _ _ zb_0.1 h dX4_endsBeside_43
  · have h := h.2 c
    refine zr_iconst C (v := 1) dX4_endsBeside_38 (by decide) ?_
    refine zr_goto C 43 dX4_endsBeside_39 (by decide) ?_
    exact R _ _ _ _ zb_1.1 h dX4_endsBeside_43
/-! X4_endsCross -/
set_option maxHeartbeats 4000000 in
set_option maxRecDepth 100000 in
theorem c_X4_endsCross (l : Launch) (G : zG) (N : Nat) (a0 : Nat) (ha0 : zkd a0 = 0) (x1 : Int32) (a2 : Nat) (ha2 : zkd a2 = 0) (x3 : Int32) (M : zMem) (Q : Int32 → zMem → Prop) (h : f_X4_endsCross N a0 x1 a2 x3 M Q) : zMI l G yX4_endsCross cX4_endsCross 4 .boolean 2 [zR G a0, .int x1, zR G a2, .int x3] M Q := by
  refine zEZ (by decide) (Nat.le_of_ble_eq_true rfl) (lv := [(0, zR G a0), (1, .int x1), (2, zR G a2), (3, .int x3)]) rfl (fun X C R => ?_)
  have C : zC G X cX4_endsCross RX4 2 4 := C
  unfold f_X4_endsCross at h
  refine zr_aload_n C 0 dX4_endsCross_0 rfl rfl ?_
  refine zr_iload_n C 1 dX4_endsCross_1 rfl rfl ?_
  refine zr_aload_n C 2 dX4_endsCross_2 rfl rfl ?_
  refine zr_iload_n C 3 dX4_endsCross_3 rfl rfl ?_
  refine zcI (zrunS C (rest := []) (c_X4_endsBeside X.2.1 G N _ ha0 _ _ ha2 _ _ _ h) zk_X4_endsBeside zl_X4_59 (by decide) (by decide) rfl (Nat.le_of_ble_eq_true rfl) rfl dX4_endsCross_4) (fun r1 M2 h => ?_)
  refine zr_if_eq C 24 dX4_endsCross_7 (by decide) (fun c => ?_) (fun c => ?_)
  · have h := h.1 c
    refine zr_iconst C (v := 0) dX4_endsCross_24 (by decide) ?_
    exact R _ _ _ _ zb_0.1 h dX4_endsCross_25
  · have h := h.2 c
    refine zr_aload_n C 2 dX4_endsCross_10 rfl rfl ?_
    refine zr_iload_n C 3 dX4_endsCross_11 rfl rfl ?_
    refine zr_aload_n C 0 dX4_endsCross_12 rfl rfl ?_
    refine zr_iload_n C 1 dX4_endsCross_13 rfl rfl ?_
    refine zcI (zrunS C (rest := []) (c_X4_endsBeside X.2.1 G N _ ha2 _ _ ha0 _ _ _ h) zk_X4_endsBeside zl_X4_59 (by decide) (by decide) rfl (Nat.le_of_ble_eq_true rfl) rfl dX4_endsCross_14) (fun r3 M4 h => ?_)
    refine zr_if_eq C 24 dX4_endsCross_17 (by decide) (fun c => ?_) (fun c => ?_)
    · have h := h.1 c
      refine zr_iconst C (v := 0) dX4_endsCross_24 (by decide) ?_
      exact R _ _ _ _ zb_0.1 h dX4_endsCross_25
    · have h := h.2 c
      refine zr_iconst C (v := 1) dX4_endsCross_20 (by decide) ?_
      refine zr_goto C 25 dX4_endsCross_21 (by decide) ?_
      exact R _ _ _ _ zb_1.1 h dX4_endsCross_25
/-! X4_crossOfSteps -/
set_option maxHeartbeats 4000000 in
set_option maxRecDepth 100000 in
theorem c_X4_crossOfSteps (l : Launch) (G : zG) (N : Nat) (a0 : Nat) (ha0 : zkd a0 = 0) (x1 : Int32) (x2 : Int32) (a3 : Nat) (ha3 : zkd a3 = 0) (x4 : Int32) (x5 : Int32) (M : zMem) (Q : Int64 → zMem → Prop) (h : f_X4_crossOfSteps N a0 x1 x2 a3 x4 x5 M Q) : zML l G yX4_crossOfSteps cX4_crossOfSteps 6 1 [zR G a0, .int x1, .int x2, zR G a3, .int x4, .int x5] M Q := by
  refine zEL (by decide) (Nat.le_of_ble_eq_true rfl) (lv := [(0, zR G a0), (1, .int x1), (2, .int x2), (3, zR G a3), (4, .int x4), (5, .int x5)]) rfl (fun X C R => ?_)
  have C : zC G X cX4_crossOfSteps RX4 1 6 := C
  unfold f_X4_crossOfSteps at h
  refine zr_aload_n C 0 dX4_crossOfSteps_0 rfl rfl ?_
  refine zr_iload_n C 1 dX4_crossOfSteps_1 rfl rfl ?_
  refine zr_iload_n C 2 dX4_crossOfSteps_2 rfl rfl ?_
  refine zr_iconst C (v := 0) dX4_crossOfSteps_3 (by decide) ?_
  refine zcI (zrunVN C (rest := []) (c_X0_step X.2.1 G N _ ha0 _ _ _ _ _ h) zk_X0_step znl_X4_9 (zRc_0 ha0) (by decide) (by decide) rfl (Nat.le_of_ble_eq_true rfl) rfl dX4_crossOfSteps_4) (fun r1 M2 h => ?_)
  refine zr_i2l C dX4_crossOfSteps_7 ?_
  refine zr_aload_n C 3 dX4_crossOfSteps_8 rfl rfl ?_
  refine zr_iload C 4 dX4_crossOfSteps_9 rfl ?_
  refine zr_iload C 5 dX4_crossOfSteps_11 rfl ?_
  refine zr_iconst C (v := 1) dX4_crossOfSteps_13 (by decide) ?_
  refine zcI (zrunVN C (rest := [.long (r1.toInt64)]) (c_X0_step X.2.1 G N _ ha3 _ _ _ _ _ h) zk_X0_step znl_X4_9 (zRc_0 ha3) (by decide) (by decide) rfl (Nat.le_of_ble_eq_true rfl) rfl dX4_crossOfSteps_14) (fun r3 M4 h => ?_)
  refine zr_i2l C dX4_crossOfSteps_17 ?_
  refine zr_lmul C dX4_crossOfSteps_18 ?_
  refine zr_aload_n C 0 dX4_crossOfSteps_19 rfl rfl ?_
  refine zr_iload_n C 1 dX4_crossOfSteps_20 rfl rfl ?_
  refine zr_iload_n C 2 dX4_crossOfSteps_21 rfl rfl ?_
  refine zr_iconst C (v := 1) dX4_crossOfSteps_22 (by decide) ?_
  refine zcI (zrunVN C (rest := [.long ((r1.toInt64) * (r3.toInt64))]) (c_X0_step X.2.1 G N _ ha0 _ _ _ _ _ h) zk_X0_step znl_X4_9 (zRc_0 ha0) (by decide) (by decide) rfl (Nat.le_of_ble_eq_true rfl) rfl dX4_crossOfSteps_23) (fun r5 M6 h => ?_)
  refine zr_i2l C dX4_crossOfSteps_26 ?_
  refine zr_aload_n C 3 dX4_crossOfSteps_27 rfl rfl ?_
  refine zr_iload C 4 dX4_crossOfSteps_28 rfl ?_
  refine zr_iload C 5 dX4_crossOfSteps_30 rfl ?_
  refine zr_iconst C (v := 0) dX4_crossOfSteps_32 (by decide) ?_
  refine zcI (zrunVN C (rest := [.long (r5.toInt64), .long ((r1.toInt64) * (r3.toInt64))]) (c_X0_step X.2.1 G N _ ha3 _ _ _ _ _ h) zk_X0_step znl_X4_9 (zRc_0 ha3) (by decide) (by decide) rfl (Nat.le_of_ble_eq_true rfl) rfl dX4_crossOfSteps_33) (fun r7 M8 h => ?_)
  refine zr_i2l C dX4_crossOfSteps_36 ?_
  refine zr_lmul C dX4_crossOfSteps_37 ?_
  refine zr_lsub C dX4_crossOfSteps_38 ?_
  exact R _ _ _ _ h dX4_crossOfSteps_39
/-! X4_sign -/
set_option maxHeartbeats 4000000 in
set_option maxRecDepth 100000 in
theorem c_X4_sign (l : Launch) (G : zG) (N : Nat) (x0 : Int64) (M : zMem) (Q : Int32 → zMem → Prop) (h : f_X4_sign N x0 M Q) : zMI l G yX4_sign cX4_sign 2 .int 0 [.long x0] M Q := by
  refine zEI (by decide) (Nat.le_of_ble_eq_true rfl) (lv := [(0, .long x0)]) rfl (fun X C R => ?_)
  have C : zC G X cX4_sign RX4 0 2 := C
  unfold f_X4_sign at h
  refine zr_lload_n C 0 dX4_sign_0 rfl rfl ?_
  refine zr_lconst C (v := 0) dX4_sign_1 (by decide) ?_
  refine zr_lcmp_le C 8 dX4_sign_2 dX4_sign_3 (by decide) (fun c => ?_) (fun c => ?_)
  · have h := h.1 c
    refine zr_lload_n C 0 dX4_sign_8 rfl rfl ?_
    refine zr_lconst C (v := 0) dX4_sign_9 (by decide) ?_
    refine zr_lcmp_ge C 18 dX4_sign_10 dX4_sign_11 (by decide) (fun c => ?_) (fun c => ?_)
    · have h := h.1 c
      refine zr_iconst C (v := 0) dX4_sign_18 (by decide) ?_
      exact R _ _ _ _ h dX4_sign_19
    · have h := h.2 c
      refine zr_iconst C (v := -1) dX4_sign_14 (by decide) ?_
      refine zr_goto C 19 dX4_sign_15 (by decide) ?_
      exact R _ _ _ _ h dX4_sign_19
  · have h := h.2 c
    refine zr_iconst C (v := 1) dX4_sign_6 (by decide) ?_
    exact R _ _ _ _ h dX4_sign_7
