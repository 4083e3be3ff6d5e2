/-! ===== the law: its script, its words, its predicate and walk ===== -/
def zCL (G : zG) (X : zX) (b L : Nat) (xs : Nat → Int32) : Prop := match X with
  | (_, _, _, _, s, _, _, _, _, _, _, _, _, _) => va_X b L xs s s.heap ∧ b < s.heap.size ∧ b < G.1
section ZS
variable {G : zG} {X : zX} {M : zMem} {cc : ByteArray} {own : String} {h nL b L : Nat} {xs : Nat → Int32} {lv : List (Nat × Value)} {rest : List Value} {pc : Nat}
theorem zr_sld {i : Int32} (C : zC G X cc own h nL) (CL : zCL G X b L xs) (hin : vp_in i L) (hd : decode cc pc = .ok (.iaload, 1)) (k : zV G X M lv (.int (xs i.toNatClampNeg) :: rest) (pc + 1)) : zV G X M lv (.int i :: .ref b :: rest) pc := by
  obtain ⟨p, l, e, R, s, m, args, below, meth, c, cells, slots, Q, nL1⟩ := X
  obtain ⟨hx, hb, hml, rfl, hown, hts, hnw, hK, hAd, hSt, hfr, hlo, hce, hsl⟩ := C
  obtain ⟨hX, hbl, hbA⟩ := CL
  intro H locs ls hP hS hl
  exact va_sld hx hb hX hbl (Nat.not_le.mpr hbA) hS hin hd (k H locs ls hP hS hl)
theorem zr_slen (C : zC G X cc own h nL) (CL : zCL G X b L xs) (hd : decode cc pc = .ok (.arraylength, 1)) (k : zV G X M lv (.int (nI L) :: rest) (pc + 1)) : zV G X M lv (.ref b :: rest) pc := by
  obtain ⟨p, l, e, R, s, m, args, below, meth, c, cells, slots, Q, nL1⟩ := X
  obtain ⟨hx, hb, hml, rfl, hown, hts, hnw, hK, hAd, hSt, hfr, hlo, hce, hsl⟩ := C
  obtain ⟨hX, hbl, hbA⟩ := CL
  intro H locs ls hP hS hl
  exact va_slen hx hb hX hbl (Nat.not_le.mpr hbA) hS hd (k H locs ls hP hS hl)
end ZS
theorem zl_L_13 : Cond.methodLink RL 13 yX7_type ∈ zgw := zgw_of 280 (by decide +kernel) (by decide +kernel)
theorem zl_L_17 : Cond.methodLink RL 17 yX8_type ∈ zgw := zgw_of 738 (by decide +kernel) (by decide +kernel)
theorem zl_L_18 : Cond.methodLink RL 18 yX7_clear ∈ zgw := zgw_of 288 (by decide +kernel) (by decide +kernel)
theorem zl_L_22 : Cond.methodLink RL 22 yX8_clear ∈ zgw := zgw_of 745 (by decide +kernel) (by decide +kernel)
theorem zl_L_23 : Cond.methodLink RL 23 yX7_arcs ∈ zgw := zgw_of 296 (by decide +kernel) (by decide +kernel)
theorem zl_L_26 : Cond.methodLink RL 26 yX8_arcs ∈ zgw := zgw_of 749 (by decide +kernel) (by decide +kernel)
theorem zl_L_27 : Cond.methodLink RL 27 yX7_point ∈ zgw := zgw_of 383 (by decide +kernel) (by decide +kernel)
theorem zl_L_31 : Cond.methodLink RL 31 yX8_point ∈ zgw := zgw_of 765 (by decide +kernel) (by decide +kernel)
theorem zl_L_32 : Cond.methodLink RL 32 yX7_moves ∈ zgw := zgw_of 402 (by decide +kernel) (by decide +kernel)
theorem zl_L_35 : Cond.methodLink RL 35 yX8_moves ∈ zgw := zgw_of 936 (by decide +kernel) (by decide +kernel)
theorem zl_L_36 : Cond.methodLink RL 36 yX7_shifts ∈ zgw := zgw_of 425 (by decide +kernel) (by decide +kernel)
theorem zl_L_40 : Cond.methodLink RL 40 yX8_shifts ∈ zgw := zgw_of 944 (by decide +kernel) (by decide +kernel)
theorem zl_L_41 : Cond.methodLink RL 41 yX7_reverses ∈ zgw := zgw_of 438 (by decide +kernel) (by decide +kernel)
theorem zl_L_44 : Cond.methodLink RL 44 yX8_reverses ∈ zgw := zgw_of 948 (by decide +kernel) (by decide +kernel)
theorem zl_L_45 : Cond.methodLink RL 45 yX7_undo ∈ zgw := zgw_of 450 (by decide +kernel) (by decide +kernel)
theorem zl_L_48 : Cond.methodLink RL 48 yX8_undo ∈ zgw := zgw_of 952 (by decide +kernel) (by decide +kernel)
theorem zl_L_49 : Cond.methodLink RL 49 yX7_apart ∈ zgw := zgw_of 454 (by decide +kernel) (by decide +kernel)
theorem zl_L_52 : Cond.methodLink RL 52 yX8_apart ∈ zgw := zgw_of 798 (by decide +kernel) (by decide +kernel)
theorem zl_L_53 : Cond.methodLink RL 53 yX7_turn ∈ zgw := zgw_of 483 (by decide +kernel) (by decide +kernel)
theorem zl_L_56 : Cond.methodLink RL 56 yX8_turn ∈ zgw := zgw_of 841 (by decide +kernel) (by decide +kernel)
theorem zl_L_57 : Cond.methodLink RL 57 yX7_bends ∈ zgw := zgw_of 506 (by decide +kernel) (by decide +kernel)
theorem zl_L_61 : Cond.methodLink RL 61 yX8_bends ∈ zgw := zgw_of 861 (by decide +kernel) (by decide +kernel)
theorem zl_L_62 : Cond.methodLink RL 62 yX7_goes ∈ zgw := zgw_of 516 (by decide +kernel) (by decide +kernel)
theorem zl_L_65 : Cond.methodLink RL 65 yX8_goes ∈ zgw := zgw_of 872 (by decide +kernel) (by decide +kernel)
theorem zl_L_66 : Cond.methodLink RL 66 yX7_area ∈ zgw := zgw_of 523 (by decide +kernel) (by decide +kernel)
theorem zl_L_69 : Cond.methodLink RL 69 yX8_area ∈ zgw := zgw_of 876 (by decide +kernel) (by decide +kernel)
theorem zl_L_70 : Cond.methodLink RL 70 yX7_meets ∈ zgw := zgw_of 536 (by decide +kernel) (by decide +kernel)
theorem zl_L_73 : Cond.methodLink RL 73 yX8_meets ∈ zgw := zgw_of 888 (by decide +kernel) (by decide +kernel)
theorem zl_L_74 : Cond.methodLink RL 74 yX7_meeting ∈ zgw := zgw_of 591 (by decide +kernel) (by decide +kernel)
theorem zl_L_77 : Cond.methodLink RL 77 yX8_meeting ∈ zgw := zgw_of 912 (by decide +kernel) (by decide +kernel)
theorem zl_L_78 : Cond.methodLink RL 78 yX7_spot ∈ zgw := zgw_of 595 (by decide +kernel) (by decide +kernel)
theorem zl_L_81 : Cond.methodLink RL 81 yX8_spot ∈ zgw := zgw_of 916 (by decide +kernel) (by decide +kernel)
theorem zl_L_82 : Cond.methodLink RL 82 yX7_busiest ∈ zgw := zgw_of 603 (by decide +kernel) (by decide +kernel)
theorem zl_L_85 : Cond.methodLink RL 85 yX8_busiest ∈ zgw := zgw_of 928 (by decide +kernel) (by decide +kernel)
theorem zl_L_86 : Cond.methodLink RL 86 yX7_sees ∈ zgw := zgw_of 612 (by decide +kernel) (by decide +kernel)
theorem zl_L_89 : Cond.methodLink RL 89 yX8_sees ∈ zgw := zgw_of 956 (by decide +kernel) (by decide +kernel)
theorem zl_L_90 : Cond.methodLink RL 90 yX7_forget ∈ zgw := zgw_of 620 (by decide +kernel) (by decide +kernel)
theorem zl_L_93 : Cond.methodLink RL 93 yX8_forget ∈ zgw := zgw_of 960 (by decide +kernel) (by decide +kernel)
theorem zl_L_94 : Cond.methodLink RL 94 yX7_unseen ∈ zgw := zgw_of 624 (by decide +kernel) (by decide +kernel)
theorem zl_L_97 : Cond.methodLink RL 97 yX8_unseen ∈ zgw := zgw_of 964 (by decide +kernel) (by decide +kernel)
theorem zl_L_98 : Cond.methodLink RL 98 yX7_keep ∈ zgw := zgw_of 628 (by decide +kernel) (by decide +kernel)
theorem zl_L_101 : Cond.methodLink RL 101 yX8_keep ∈ zgw := zgw_of 968 (by decide +kernel) (by decide +kernel)
theorem zl_L_102 : Cond.methodLink RL 102 yX7_back ∈ zgw := zgw_of 639 (by decide +kernel) (by decide +kernel)
theorem zl_L_105 : Cond.methodLink RL 105 yX8_back ∈ zgw := zgw_of 972 (by decide +kernel) (by decide +kernel)
theorem zl_L_106 : Cond.methodLink RL 106 yX7_count ∈ zgw := zgw_of 643 (by decide +kernel) (by decide +kernel)
theorem zl_L_109 : Cond.methodLink RL 109 yX8_count ∈ zgw := zgw_of 976 (by decide +kernel) (by decide +kernel)
def f_L_law_b889 (N : Nat) (L : Nat) (xs : Nat → Int32) (k18 : Int32 → zMem → Prop) (x3 : Int32) (M : zMem) (Q : Int32 → zMem → Prop) : Prop :=
  (∀ v1 : Int32, v1 = x3 + (5 : Int32) → k18 v1 M)
set_option maxHeartbeats 4000000 in
set_option maxRecDepth 100000 in
theorem w_L_law_b889 {G : zG} {X : zX} (C : zC G X cL_law RL 17 4) {b L : Nat} {xs : Nat → Int32} (CL : zCL G X b L xs) (N : Nat) (Q : Int32 → zMem → Prop) (R : zRZ G X cL_law Q) (x3 : Int32) (k18 : Int32 → zMem → Prop) (hk18 : ∀ (z3 : Int32) (M : zMem), k18 z3 M → zV G X M [(0, .ref b), (1, zR G 0), (2, zR G 47), (3, .int z3)] [] 18) (M : zMem) (h : f_L_law_b889 N L xs k18 x3 M Q) : zV G X M [(0, .ref b), (1, zR G 0), (2, zR G 47), (3, .int x3)] [] 889 := by
  unfold f_L_law_b889 at h
  obtain ⟨v1, hv1⟩ : ∃ y : Int32, y = x3 + (5 : Int32) := ⟨_, rfl⟩
  have h := h v1 hv1
  refine zr_iinc C 3 [1, 2, 3, 0] dL_law_889 rfl (by rw [hv1]; rfl) (by decide) rfl (lv' := [(0, .ref b), (1, zR G 0), (2, zR G 47), (3, .int v1)]) ?_
  refine zr_goto C 18 dL_law_892 (by decide) ?_
  exact hk18 _ _ h
def f_L_law_b18 (N : Nat) (L : Nat) (xs : Nat → Int32) (k18 : Int32 → zMem → Prop) (x3 : Int32) (M : zMem) (Q : Int32 → zMem → Prop) : Prop :=
  ((((nI L) - (5 : Int32)) < x3 → Q (1 : Int32) M) ∧ (¬ ((nI L) - (5 : Int32)) < x3 → (vp_in x3 L ∧ ((((xs x3.toNatClampNeg) &&& (31 : Int32)) = (0 : Int32) → (vp_in (x3 + (1 : Int32)) L ∧  (f_X7_type N (xs (x3 + (1 : Int32)).toNatClampNeg) M (fun (r2 : Int32) (M3 : zMem) =>  (vp_in (x3 + (1 : Int32)) L ∧  (f_X8_type N (xs (x3 + (1 : Int32)).toNatClampNeg) M3 (fun (r4 : Int32) (M5 : zMem) => ((r2 = r4 → f_L_law_b889 N L xs k18 x3 M5 Q) ∧ (¬ r2 = r4 → Q (0 : Int32) M5))))))))) ∧ (((xs x3.toNatClampNeg) &&& (31 : Int32)) = (1 : Int32) → (f_X7_clear N  M (fun (r6 : Int32) (M7 : zMem) =>  (f_X8_clear N  M7 (fun (r8 : Int32) (M9 : zMem) => ((r6 = r8 → f_L_law_b889 N L xs k18 x3 M9 Q) ∧ (¬ r6 = r8 → Q (0 : Int32) M9))))))) ∧ (((xs x3.toNatClampNeg) &&& (31 : Int32)) = (2 : Int32) → (f_X7_arcs N  M (fun (r10 : Int32) (M11 : zMem) =>  (f_X8_arcs N  M11 (fun (r12 : Int32) (M13 : zMem) => ((r10 = r12 → f_L_law_b889 N L xs k18 x3 M13 Q) ∧ (¬ r10 = r12 → Q (0 : Int32) M13))))))) ∧ (((xs x3.toNatClampNeg) &&& (31 : Int32)) = (3 : Int32) → (vp_in (x3 + (1 : Int32)) L ∧  (vp_in (x3 + (2 : Int32)) L ∧  (vp_in (x3 + (3 : Int32)) L ∧  (vp_in (x3 + (4 : Int32)) L ∧  (f_X7_point N (xs (x3 + (1 : Int32)).toNatClampNeg) (xs (x3 + (2 : Int32)).toNatClampNeg) (xs (x3 + (3 : Int32)).toNatClampNeg) (xs (x3 + (4 : Int32)).toNatClampNeg) M (fun (r14 : Int32) (M15 : zMem) =>  (vp_in (x3 + (1 : Int32)) L ∧  (vp_in (x3 + (2 : Int32)) L ∧  (vp_in (x3 + (3 : Int32)) L ∧  (vp_in (x3 + (4 : Int32)) L ∧  (f_X8_point N (xs (x3 + (1 : Int32)).toNatClampNeg) (xs (x3 + (2 : Int32)).toNatClampNeg) (xs (x3 + (3 : Int32)).toNatClampNeg) (xs (x3 + (4 : Int32)).toNatClampNeg) M15 (fun (r16 : Int32) (M17 : zMem) => ((r14 = r16 → f_L_law_b889 N L xs k18 x3 M17 Q) ∧ (¬ r14 = r16 → Q (0 : Int32) M17))))))))))))))) ∧ (((xs x3.toNatClampNeg) &&& (31 : Int32)) = (4 : Int32) → (vp_in (x3 + (1 : Int32)) L ∧  (vp_in (x3 + (2 : Int32)) L ∧  (vp_in (x3 + (3 : Int32)) L ∧  (vp_in (x3 + (4 : Int32)) L ∧  (f_X7_moves N (xs (x3 + (1 : Int32)).toNatClampNeg) (xs (x3 + (2 : Int32)).toNatClampNeg) (xs (x3 + (3 : Int32)).toNatClampNeg) (xs (x3 + (4 : Int32)).toNatClampNeg) M (fun (r18 : Int32) (M19 : zMem) =>  (vp_in (x3 + (1 : Int32)) L ∧  (vp_in (x3 + (2 : Int32)) L ∧  (vp_in (x3 + (3 : Int32)) L ∧  (vp_in (x3 + (4 : Int32)) L ∧  (f_X8_moves N (xs (x3 + (1 : Int32)).toNatClampNeg) (xs (x3 + (2 : Int32)).toNatClampNeg) (xs (x3 + (3 : Int32)).toNatClampNeg) (xs (x3 + (4 : Int32)).toNatClampNeg) M19 (fun (r20 : Int32) (M21 : zMem) => ((r18 = r20 → f_L_law_b889 N L xs k18 x3 M21 Q) ∧ (¬ r18 = r20 → Q (0 : Int32) M21))))))))))))))) ∧ (((xs x3.toNatClampNeg) &&& (31 : Int32)) = (5 : Int32) → (vp_in (x3 + (1 : Int32)) L ∧  (vp_in (x3 + (2 : Int32)) L ∧  (vp_in (x3 + (3 : Int32)) L ∧  (f_X7_shifts N (xs (x3 + (1 : Int32)).toNatClampNeg) (xs (x3 + (2 : Int32)).toNatClampNeg) (xs (x3 + (3 : Int32)).toNatClampNeg) M (fun (r22 : Int32) (M23 : zMem) =>  (vp_in (x3 + (1 : Int32)) L ∧  (vp_in (x3 + (2 : Int32)) L ∧  (vp_in (x3 + (3 : Int32)) L ∧  (f_X8_shifts N (xs (x3 + (1 : Int32)).toNatClampNeg) (xs (x3 + (2 : Int32)).toNatClampNeg) (xs (x3 + (3 : Int32)).toNatClampNeg) M23 (fun (r24 : Int32) (M25 : zMem) => ((r22 = r24 → f_L_law_b889 N L xs k18 x3 M25 Q) ∧ (¬ r22 = r24 → Q (0 : Int32) M25))))))))))))) ∧ (((xs x3.toNatClampNeg) &&& (31 : Int32)) = (6 : Int32) → (vp_in (x3 + (1 : Int32)) L ∧  (f_X7_reverses N (xs (x3 + (1 : Int32)).toNatClampNeg) M (fun (r26 : Int32) (M27 : zMem) =>  (vp_in (x3 + (1 : Int32)) L ∧  (f_X8_reverses N (xs (x3 + (1 : Int32)).toNatClampNeg) M27 (fun (r28 : Int32) (M29 : zMem) => ((r26 = r28 → f_L_law_b889 N L xs k18 x3 M29 Q) ∧ (¬ r26 = r28 → Q (0 : Int32) M29))))))))) ∧ (((xs x3.toNatClampNeg) &&& (31 : Int32)) = (7 : Int32) → (f_X7_undo N  M (fun (r30 : Int32) (M31 : zMem) =>  (f_X8_undo N  M31 (fun (r32 : Int32) (M33 : zMem) => ((r30 = r32 → f_L_law_b889 N L xs k18 x3 M33 Q) ∧ (¬ r30 = r32 → Q (0 : Int32) M33))))))) ∧ (((xs x3.toNatClampNeg) &&& (31 : Int32)) = (8 : Int32) → (vp_in (x3 + (1 : Int32)) L ∧  (vp_in (x3 + (2 : Int32)) L ∧  (vp_in (x3 + (3 : Int32)) L ∧  (vp_in (x3 + (4 : Int32)) L ∧  (f_X7_apart N (xs (x3 + (1 : Int32)).toNatClampNeg) (xs (x3 + (2 : Int32)).toNatClampNeg) (xs (x3 + (3 : Int32)).toNatClampNeg) (xs (x3 + (4 : Int32)).toNatClampNeg) M (fun (r34 : Int32) (M35 : zMem) =>  (vp_in (x3 + (1 : Int32)) L ∧  (vp_in (x3 + (2 : Int32)) L ∧  (vp_in (x3 + (3 : Int32)) L ∧  (vp_in (x3 + (4 : Int32)) L ∧  (f_X8_apart N (xs (x3 + (1 : Int32)).toNatClampNeg) (xs (x3 + (2 : Int32)).toNatClampNeg) (xs (x3 + (3 : Int32)).toNatClampNeg) (xs (x3 + (4 : Int32)).toNatClampNeg) M35 (fun (r36 : Int32) (M37 : zMem) => ((r34 = r36 → f_L_law_b889 N L xs k18 x3 M37 Q) ∧ (¬ r34 = r36 → Q (0 : Int32) M37))))))))))))))) ∧ (((xs x3.toNatClampNeg) &&& (31 : Int32)) = (9 : Int32) → (vp_in (x3 + (1 : Int32)) L ∧  (vp_in (x3 + (2 : Int32)) L ∧  (vp_in (x3 + (3 : Int32)) L ∧  (vp_in (x3 + (4 : Int32)) L ∧  (f_X7_turn N (xs (x3 + (1 : Int32)).toNatClampNeg) (xs (x3 + (2 : Int32)).toNatClampNeg) (xs (x3 + (3 : Int32)).toNatClampNeg) (xs (x3 + (4 : Int32)).toNatClampNeg) M (fun (r38 : Int32) (M39 : zMem) =>  (vp_in (x3 + (1 : Int32)) L ∧  (vp_in (x3 + (2 : Int32)) L ∧  (vp_in (x3 + (3 : Int32)) L ∧  (vp_in (x3 + (4 : Int32)) L ∧  (f_X8_turn N (xs (x3 + (1 : Int32)).toNatClampNeg) (xs (x3 + (2 : Int32)).toNatClampNeg) (xs (x3 + (3 : Int32)).toNatClampNeg) (xs (x3 + (4 : Int32)).toNatClampNeg) M39 (fun (r40 : Int32) (M41 : zMem) => ((r38 = r40 → f_L_law_b889 N L xs k18 x3 M41 Q) ∧ (¬ r38 = r40 → Q (0 : Int32) M41))))))))))))))) ∧ (((xs x3.toNatClampNeg) &&& (31 : Int32)) = (10 : Int32) → (vp_in (x3 + (1 : Int32)) L ∧  (vp_in (x3 + (2 : Int32)) L ∧  (f_X7_bends N (xs (x3 + (1 : Int32)).toNatClampNeg) (xs (x3 + (2 : Int32)).toNatClampNeg) M (fun (r42 : Int32) (M43 : zMem) =>  (vp_in (x3 + (1 : Int32)) L ∧  (vp_in (x3 + (2 : Int32)) L ∧  (f_X8_bends N (xs (x3 + (1 : Int32)).toNatClampNeg) (xs (x3 + (2 : Int32)).toNatClampNeg) M43 (fun (r44 : Int32) (M45 : zMem) => ((r42 = r44 → f_L_law_b889 N L xs k18 x3 M45 Q) ∧ (¬ r42 = r44 → Q (0 : Int32) M45))))))))))) ∧ (((xs x3.toNatClampNeg) &&& (31 : Int32)) = (11 : Int32) → (vp_in (x3 + (1 : Int32)) L ∧  (vp_in (x3 + (2 : Int32)) L ∧  (vp_in (x3 + (3 : Int32)) L ∧  (f_X7_goes N (xs (x3 + (1 : Int32)).toNatClampNeg) (xs (x3 + (2 : Int32)).toNatClampNeg) (xs (x3 + (3 : Int32)).toNatClampNeg) M (fun (r46 : Int32) (M47 : zMem) =>  (vp_in (x3 + (1 : Int32)) L ∧  (vp_in (x3 + (2 : Int32)) L ∧  (vp_in (x3 + (3 : Int32)) L ∧  (f_X8_goes N (xs (x3 + (1 : Int32)).toNatClampNeg) (xs (x3 + (2 : Int32)).toNatClampNeg) (xs (x3 + (3 : Int32)).toNatClampNeg) M47 (fun (r48 : Int32) (M49 : zMem) => ((r46 = r48 → f_L_law_b889 N L xs k18 x3 M49 Q) ∧ (¬ r46 = r48 → Q (0 : Int32) M49))))))))))))) ∧ (((xs x3.toNatClampNeg) &&& (31 : Int32)) = (12 : Int32) → (vp_in (x3 + (1 : Int32)) L ∧  (vp_in (x3 + (2 : Int32)) L ∧  (f_X7_area N (xs (x3 + (1 : Int32)).toNatClampNeg) (xs (x3 + (2 : Int32)).toNatClampNeg) M (fun (r50 : Int32) (M51 : zMem) =>  (vp_in (x3 + (1 : Int32)) L ∧  (vp_in (x3 + (2 : Int32)) L ∧  (f_X8_area N (xs (x3 + (1 : Int32)).toNatClampNeg) (xs (x3 + (2 : Int32)).toNatClampNeg) M51 (fun (r52 : Int32) (M53 : zMem) => ((r50 = r52 → f_L_law_b889 N L xs k18 x3 M53 Q) ∧ (¬ r50 = r52 → Q (0 : Int32) M53))))))))))) ∧ (((xs x3.toNatClampNeg) &&& (31 : Int32)) = (13 : Int32) → (vp_in (x3 + (1 : Int32)) L ∧  (vp_in (x3 + (2 : Int32)) L ∧  (vp_in (x3 + (3 : Int32)) L ∧  (f_X7_meets N (xs (x3 + (1 : Int32)).toNatClampNeg) (xs (x3 + (2 : Int32)).toNatClampNeg) (xs (x3 + (3 : Int32)).toNatClampNeg) M (fun (r54 : Int32) (M55 : zMem) =>  (vp_in (x3 + (1 : Int32)) L ∧  (vp_in (x3 + (2 : Int32)) L ∧  (vp_in (x3 + (3 : Int32)) L ∧  (f_X8_meets N (xs (x3 + (1 : Int32)).toNatClampNeg) (xs (x3 + (2 : Int32)).toNatClampNeg) (xs (x3 + (3 : Int32)).toNatClampNeg) M55 (fun (r56 : Int32) (M57 : zMem) => ((r54 = r56 → f_L_law_b889 N L xs k18 x3 M57 Q) ∧ (¬ r54 = r56 → Q (0 : Int32) M57))))))))))))) ∧ (((xs x3.toNatClampNeg) &&& (31 : Int32)) = (14 : Int32) → (vp_in (x3 + (1 : Int32)) L ∧  (vp_in (x3 + (2 : Int32)) L ∧  (vp_in (x3 + (3 : Int32)) L ∧  (vp_in (x3 + (4 : Int32)) L ∧  (f_X7_meeting N (xs (x3 + (1 : Int32)).toNatClampNeg) (xs (x3 + (2 : Int32)).toNatClampNeg) (xs (x3 + (3 : Int32)).toNatClampNeg) (xs (x3 + (4 : Int32)).toNatClampNeg) M (fun (r58 : Int32) (M59 : zMem) =>  (vp_in (x3 + (1 : Int32)) L ∧  (vp_in (x3 + (2 : Int32)) L ∧  (vp_in (x3 + (3 : Int32)) L ∧  (vp_in (x3 + (4 : Int32)) L ∧  (f_X8_meeting N (xs (x3 + (1 : Int32)).toNatClampNeg) (xs (x3 + (2 : Int32)).toNatClampNeg) (xs (x3 + (3 : Int32)).toNatClampNeg) (xs (x3 + (4 : Int32)).toNatClampNeg) M59 (fun (r60 : Int32) (M61 : zMem) => ((r58 = r60 → f_L_law_b889 N L xs k18 x3 M61 Q) ∧ (¬ r58 = r60 → Q (0 : Int32) M61))))))))))))))) ∧ (((xs x3.toNatClampNeg) &&& (31 : Int32)) = (15 : Int32) → (vp_in (x3 + (1 : Int32)) L ∧  (vp_in (x3 + (2 : Int32)) L ∧  (vp_in (x3 + (3 : Int32)) L ∧  (vp_in (x3 + (4 : Int32)) L ∧  (f_X7_spot N (xs (x3 + (1 : Int32)).toNatClampNeg) (xs (x3 + (2 : Int32)).toNatClampNeg) (xs (x3 + (3 : Int32)).toNatClampNeg) (xs (x3 + (4 : Int32)).toNatClampNeg) M (fun (r62 : Int32) (M63 : zMem) =>  (vp_in (x3 + (1 : Int32)) L ∧  (vp_in (x3 + (2 : Int32)) L ∧  (vp_in (x3 + (3 : Int32)) L ∧  (vp_in (x3 + (4 : Int32)) L ∧  (f_X8_spot N (xs (x3 + (1 : Int32)).toNatClampNeg) (xs (x3 + (2 : Int32)).toNatClampNeg) (xs (x3 + (3 : Int32)).toNatClampNeg) (xs (x3 + (4 : Int32)).toNatClampNeg) M63 (fun (r64 : Int32) (M65 : zMem) => ((r62 = r64 → f_L_law_b889 N L xs k18 x3 M65 Q) ∧ (¬ r62 = r64 → Q (0 : Int32) M65))))))))))))))) ∧ (((xs x3.toNatClampNeg) &&& (31 : Int32)) = (16 : Int32) → (vp_in (x3 + (1 : Int32)) L ∧  (f_X7_busiest N (xs (x3 + (1 : Int32)).toNatClampNeg) M (fun (r66 : Int32) (M67 : zMem) =>  (vp_in (x3 + (1 : Int32)) L ∧  (f_X8_busiest N (xs (x3 + (1 : Int32)).toNatClampNeg) M67 (fun (r68 : Int32) (M69 : zMem) => ((r66 = r68 → f_L_law_b889 N L xs k18 x3 M69 Q) ∧ (¬ r66 = r68 → Q (0 : Int32) M69))))))))) ∧ (((xs x3.toNatClampNeg) &&& (31 : Int32)) = (17 : Int32) → (vp_in (x3 + (1 : Int32)) L ∧  (vp_in (x3 + (2 : Int32)) L ∧  (f_X7_sees N (xs (x3 + (1 : Int32)).toNatClampNeg) (xs (x3 + (2 : Int32)).toNatClampNeg) M (fun (r70 : Int32) (M71 : zMem) =>  (vp_in (x3 + (1 : Int32)) L ∧  (vp_in (x3 + (2 : Int32)) L ∧  (f_X8_sees N (xs (x3 + (1 : Int32)).toNatClampNeg) (xs (x3 + (2 : Int32)).toNatClampNeg) M71 (fun (r72 : Int32) (M73 : zMem) => ((r70 = r72 → f_L_law_b889 N L xs k18 x3 M73 Q) ∧ (¬ r70 = r72 → Q (0 : Int32) M73))))))))))) ∧ (((xs x3.toNatClampNeg) &&& (31 : Int32)) = (18 : Int32) → (f_X7_forget N  M (fun (r74 : Int32) (M75 : zMem) =>  (f_X8_forget N  M75 (fun (r76 : Int32) (M77 : zMem) => ((r74 = r76 → f_L_law_b889 N L xs k18 x3 M77 Q) ∧ (¬ r74 = r76 → Q (0 : Int32) M77))))))) ∧ (((xs x3.toNatClampNeg) &&& (31 : Int32)) = (19 : Int32) → (f_X7_unseen N  M (fun (r78 : Int32) (M79 : zMem) =>  (f_X8_unseen N  M79 (fun (r80 : Int32) (M81 : zMem) => ((r78 = r80 → f_L_law_b889 N L xs k18 x3 M81 Q) ∧ (¬ r78 = r80 → Q (0 : Int32) M81))))))) ∧ (((xs x3.toNatClampNeg) &&& (31 : Int32)) = (20 : Int32) → (vp_in (x3 + (1 : Int32)) L ∧  (f_X7_keep N (xs (x3 + (1 : Int32)).toNatClampNeg) M (fun (r82 : Int32) (M83 : zMem) =>  (vp_in (x3 + (1 : Int32)) L ∧  (f_X8_keep N (xs (x3 + (1 : Int32)).toNatClampNeg) M83 (fun (r84 : Int32) (M85 : zMem) => ((r82 = r84 → f_L_law_b889 N L xs k18 x3 M85 Q) ∧ (¬ r82 = r84 → Q (0 : Int32) M85))))))))) ∧ (((xs x3.toNatClampNeg) &&& (31 : Int32)) = (21 : Int32) → (vp_in (x3 + (1 : Int32)) L ∧  (f_X7_back N (xs (x3 + (1 : Int32)).toNatClampNeg) M (fun (r86 : Int32) (M87 : zMem) =>  (vp_in (x3 + (1 : Int32)) L ∧  (f_X8_back N (xs (x3 + (1 : Int32)).toNatClampNeg) M87 (fun (r88 : Int32) (M89 : zMem) => ((r86 = r88 → f_L_law_b889 N L xs k18 x3 M89 Q) ∧ (¬ r86 = r88 → Q (0 : Int32) M89))))))))) ∧ (((xs x3.toNatClampNeg) &&& (31 : Int32)) = (22 : Int32) → (vp_in (x3 + (1 : Int32)) L ∧  (f_X7_count N (xs (x3 + (1 : Int32)).toNatClampNeg) M (fun (r90 : Int32) (M91 : zMem) =>  (vp_in (x3 + (1 : Int32)) L ∧  (f_X8_count N (xs (x3 + (1 : Int32)).toNatClampNeg) M91 (fun (r92 : Int32) (M93 : zMem) => ((r90 = r92 → f_L_law_b889 N L xs k18 x3 M93 Q) ∧ (¬ r90 = r92 → Q (0 : Int32) M93))))))))) ∧ (((xs x3.toNatClampNeg) &&& (31 : Int32)).toInt < 0 ∨ (22 : Int) < ((xs x3.toNatClampNeg) &&& (31 : Int32)).toInt → f_L_law_b889 N L xs k18 x3 M Q)))))
set_option maxHeartbeats 4000000 in
set_option maxRecDepth 100000 in
theorem w_L_law_b18 {G : zG} {X : zX} (C : zC G X cL_law RL 17 4) {b L : Nat} {xs : Nat → Int32} (CL : zCL G X b L xs) (N : Nat) (Q : Int32 → zMem → Prop) (R : zRZ G X cL_law Q) (k18 : Int32 → zMem → Prop) (hk18 : ∀ (z3 : Int32) (M : zMem), k18 z3 M → zV G X M [(0, .ref b), (1, zR G 0), (2, zR G 47), (3, .int z3)] [] 18) (x3 : Int32) (M : zMem) (h : f_L_law_b18 N L xs k18 x3 M Q) : zV G X M [(0, .ref b), (1, zR G 0), (2, zR G 47), (3, .int x3)] [] 18 := by
  unfold f_L_law_b18 at h
  refine zr_iload_n C 3 dL_law_18 rfl rfl ?_
  refine zr_aload_n C 0 dL_law_19 rfl rfl ?_
  refine zr_slen C CL dL_law_20 ?_
  refine zr_iconst C (v := 5) dL_law_21 (by decide) ?_
  refine zr_isub C dL_law_22 ?_
  refine zr_icmp_gt C 895 dL_law_23 (by decide) (fun c => ?_) (fun c => ?_)
  · have h := h.1 c
    refine zr_iconst C (v := 1) dL_law_895 (by decide) ?_
    exact R _ _ _ _ zb_1.1 h dL_law_896
  · have h := h.2 c
    refine zr_aload_n C 0 dL_law_26 rfl rfl ?_
    refine zr_iload_n C 3 dL_law_27 rfl rfl ?_
    refine zr_sld C CL h.1 dL_law_28 ?_
    have h := h.2
    refine zr_bipush C (v := 31) dL_law_29 (by decide) ?_
    refine zr_iand C dL_law_31 ?_
    rcases zsw_cases ((xs x3.toNatClampNeg) &&& (31 : Int32)) 22 (by decide) with c | ⟨j, cj, c⟩
    · have h := h.2.2.2.2.2.2.2.2.2.2.2.2.2.2.2.2.2.2.2.2.2.2.2 c
      refine zr_tableOut C 889 dL_law_32 c (by decide) ?_
      exact w_L_law_b889 C CL N Q R _ _ hk18 _ h
    · match j, cj, c with
      | 0, _, c =>
        have c : ((xs x3.toNatClampNeg) &&& (31 : Int32)) = (0 : Int32) := c
        have h := h.1 c
        refine zr_tableIn C 140 dL_law_32 (off := 108) (by rw [c] <;> decide) (by rw [c] <;> decide) (by rw [c] <;> decide) (by decide) ?_
        refine zr_aload_n C 1 dL_law_140 rfl rfl ?_
        refine zr_aload_n C 0 dL_law_141 rfl rfl ?_
        refine zr_iload_n C 3 dL_law_142 rfl rfl ?_
        refine zr_iconst C (v := 1) dL_law_143 (by decide) ?_
        refine zr_iadd C dL_law_144 ?_
        refine zr_sld C CL h.1 dL_law_145 ?_
        have h := h.2
        refine zcI (zrunV C (rest := []) (c_X7_type X.2.1 G N _ _ _ h) zk_X7_type zl_L_13 (zRc_6 zo_0) (by decide) (by decide) rfl (Nat.le_of_ble_eq_true rfl) rfl dL_law_146) (fun r2 M3 h => ?_)
        refine zr_aload_n C 2 dL_law_149 rfl rfl ?_
        refine zr_aload_n C 0 dL_law_150 rfl rfl ?_
        refine zr_iload_n C 3 dL_law_151 rfl rfl ?_
        refine zr_iconst C (v := 1) dL_law_152 (by decide) ?_
        refine zr_iadd C dL_law_153 ?_
        refine zr_sld C CL h.1 dL_law_154 ?_
        have h := h.2
        refine zcI (zrunV C (rest := [.int r2]) (c_X8_type X.2.1 G N _ _ _ h) zk_X8_type zl_L_17 (zRc_7 zo_47) (by decide) (by decide) rfl (Nat.le_of_ble_eq_true rfl) rfl dL_law_155) (fun r4 M5 h => ?_)
        refine zr_icmp_eq C 889 dL_law_158 (by decide) (fun c => ?_) (fun c => ?_)
        · have h := h.1 c
          exact w_L_law_b889 C CL N Q R _ _ hk18 _ h
        · have h := h.2 c
          refine zr_iconst C (v := 0) dL_law_161 (by decide) ?_
          exact R _ _ _ _ zb_0.1 h dL_law_162
      | 1, _, c =>
        have c : ((xs x3.toNatClampNeg) &&& (31 : Int32)) = (1 : Int32) := c
        have h := h.2.1 c
        refine zr_tableIn C 163 dL_law_32 (off := 131) (by rw [c] <;> decide) (by rw [c] <;> decide) (by rw [c] <;> decide) (by decide) ?_
        refine zr_aload_n C 1 dL_law_163 rfl rfl ?_
        refine zcI (zrunV C (rest := []) (c_X7_clear X.2.1 G N  _ _ h) zk_X7_clear zl_L_18 (zRc_6 zo_0) (by decide) (by decide) rfl (Nat.le_of_ble_eq_true rfl) rfl dL_law_164) (fun r6 M7 h => ?_)
        refine zr_aload_n C 2 dL_law_167 rfl rfl ?_
        refine zcI (zrunV C (rest := [.int r6]) (c_X8_clear X.2.1 G N  _ _ h) zk_X8_clear zl_L_22 (zRc_7 zo_47) (by decide) (by decide) rfl (Nat.le_of_ble_eq_true rfl) rfl dL_law_168) (fun r8 M9 h => ?_)
        refine zr_icmp_eq C 889 dL_law_171 (by decide) (fun c => ?_) (fun c => ?_)
        · have h := h.1 c
          exact w_L_law_b889 C CL N Q R _ _ hk18 _ h
        · have h := h.2 c
          refine zr_iconst C (v := 0) dL_law_174 (by decide) ?_
          exact R _ _ _ _ zb_0.1 h dL_law_175
      | 2, _, c =>
        have c : ((xs x3.toNatClampNeg) &&& (31 : Int32)) = (2 : Int32) := c
        have h := h.2.2.1 c
        refine zr_tableIn C 176 dL_law_32 (off := 144) (by rw [c] <;> decide) (by rw [c] <;> decide) (by rw [c] <;> decide) (by decide) ?_
        refine zr_aload_n C 1 dL_law_176 rfl rfl ?_
        refine zcI (zrunV C (rest := []) (c_X7_arcs X.2.1 G N  _ _ h) zk_X7_arcs zl_L_23 (zRc_6 zo_0) (by decide) (by decide) rfl (Nat.le_of_ble_eq_true rfl) rfl dL_law_177) (fun r10 M11 h => ?_)
        refine zr_aload_n C 2 dL_law_180 rfl rfl ?_
        refine zcI (zrunV C (rest := [.int r10]) (c_X8_arcs X.2.1 G N  _ _ h) zk_X8_arcs zl_L_26 (zRc_7 zo_47) (by decide) (by decide) rfl (Nat.le_of_ble_eq_true rfl) rfl dL_law_181) (fun r12 M13 h => ?_)
        refine zr_icmp_eq C 889 dL_law_184 (by decide) (fun c => ?_) (fun c => ?_)
        · have h := h.1 c
          exact w_L_law_b889 C CL N Q R _ _ hk18 _ h
        · have h := h.2 c
          refine zr_iconst C (v := 0) dL_law_187 (by decide) ?_
          exact R _ _ _ _ zb_0.1 h dL_law_188
      | 3, _, c =>
        have c : ((xs x3.toNatClampNeg) &&& (31 : Int32)) = (3 : Int32) := c
        have h := h.2.2.2.1 c
        refine zr_tableIn C 189 dL_law_32 (off := 157) (by rw [c] <;> decide) (by rw [c] <;> decide) (by rw [c] <;> decide) (by decide) ?_
        refine zr_aload_n C 1 dL_law_189 rfl rfl ?_
        refine zr_aload_n C 0 dL_law_190 rfl rfl ?_
        refine zr_iload_n C 3 dL_law_191 rfl rfl ?_
        refine zr_iconst C (v := 1) dL_law_192 (by decide) ?_
        refine zr_iadd C dL_law_193 ?_
        refine zr_sld C CL h.1 dL_law_194 ?_
        have h := h.2
        refine zr_aload_n C 0 dL_law_195 rfl rfl ?_
        refine zr_iload_n C 3 dL_law_196 rfl rfl ?_
        refine zr_iconst C (v := 2) dL_law_197 (by decide) ?_
        refine zr_iadd C dL_law_198 ?_
        refine zr_sld C CL h.1 dL_law_199 ?_
        have h := h.2
        refine zr_aload_n C 0 dL_law_200 rfl rfl ?_
        refine zr_iload_n C 3 dL_law_201 rfl rfl ?_
        refine zr_iconst C (v := 3) dL_law_202 (by decide) ?_
        refine zr_iadd C dL_law_203 ?_
        refine zr_sld C CL h.1 dL_law_204 ?_
        have h := h.2
        refine zr_aload_n C 0 dL_law_205 rfl rfl ?_
        refine zr_iload_n C 3 dL_law_206 rfl rfl ?_
        refine zr_iconst C (v := 4) dL_law_207 (by decide) ?_
        refine zr_iadd C dL_law_208 ?_
        refine zr_sld C CL h.1 dL_law_209 ?_
        have h := h.2
        refine zcI (zrunV C (rest := []) (c_X7_point X.2.1 G N _ _ _ _ _ _ h) zk_X7_point zl_L_27 (zRc_6 zo_0) (by decide) (by decide) rfl (Nat.le_of_ble_eq_true rfl) rfl dL_law_210) (fun r14 M15 h => ?_)
        refine zr_aload_n C 2 dL_law_213 rfl rfl ?_
        refine zr_aload_n C 0 dL_law_214 rfl rfl ?_
        refine zr_iload_n C 3 dL_law_215 rfl rfl ?_
        refine zr_iconst C (v := 1) dL_law_216 (by decide) ?_
        refine zr_iadd C dL_law_217 ?_
        refine zr_sld C CL h.1 dL_law_218 ?_
        have h := h.2
        refine zr_aload_n C 0 dL_law_219 rfl rfl ?_
        refine zr_iload_n C 3 dL_law_220 rfl rfl ?_
        refine zr_iconst C (v := 2) dL_law_221 (by decide) ?_
        refine zr_iadd C dL_law_222 ?_
        refine zr_sld C CL h.1 dL_law_223 ?_
        have h := h.2
        refine zr_aload_n C 0 dL_law_224 rfl rfl ?_
        refine zr_iload_n C 3 dL_law_225 rfl rfl ?_
        refine zr_iconst C (v := 3) dL_law_226 (by decide) ?_
        refine zr_iadd C dL_law_227 ?_
        refine zr_sld C CL h.1 dL_law_228 ?_
        have h := h.2
        refine zr_aload_n C 0 dL_law_229 rfl rfl ?_
        refine zr_iload_n C 3 dL_law_230 rfl rfl ?_
        refine zr_iconst C (v := 4) dL_law_231 (by decide) ?_
        refine zr_iadd C dL_law_232 ?_
        refine zr_sld C CL h.1 dL_law_233 ?_
        have h := h.2
        refine zcI (zrunV C (rest := [.int r14]) (c_X8_point X.2.1 G N _ _ _ _ _ _ h) zk_X8_point zl_L_31 (zRc_7 zo_47) (by decide) (by decide) rfl (Nat.le_of_ble_eq_true rfl) rfl dL_law_234) (fun r16 M17 h => ?_)
        refine zr_icmp_eq C 889 dL_law_237 (by decide) (fun c => ?_) (fun c => ?_)
        · have h := h.1 c
          exact w_L_law_b889 C CL N Q R _ _ hk18 _ h
        · have h := h.2 c
          refine zr_iconst C (v := 0) dL_law_240 (by decide) ?_
          exact R _ _ _ _ zb_0.1 h dL_law_241
      | 4, _, c =>
        have c : ((xs x3.toNatClampNeg) &&& (31 : Int32)) = (4 : Int32) := c
        have h := h.2.2.2.2.1 c
        refine zr_tableIn C 242 dL_law_32 (off := 210) (by rw [c] <;> decide) (by rw [c] <;> decide) (by rw [c] <;> decide) (by decide) ?_
        refine zr_aload_n C 1 dL_law_242 rfl rfl ?_
        refine zr_aload_n C 0 dL_law_243 rfl rfl ?_
        refine zr_iload_n C 3 dL_law_244 rfl rfl ?_
        refine zr_iconst C (v := 1) dL_law_245 (by decide) ?_
        refine zr_iadd C dL_law_246 ?_
        refine zr_sld C CL h.1 dL_law_247 ?_
        have h := h.2
        refine zr_aload_n C 0 dL_law_248 rfl rfl ?_
        refine zr_iload_n C 3 dL_law_249 rfl rfl ?_
        refine zr_iconst C (v := 2) dL_law_250 (by decide) ?_
        refine zr_iadd C dL_law_251 ?_
        refine zr_sld C CL h.1 dL_law_252 ?_
        have h := h.2
        refine zr_aload_n C 0 dL_law_253 rfl rfl ?_
        refine zr_iload_n C 3 dL_law_254 rfl rfl ?_
        refine zr_iconst C (v := 3) dL_law_255 (by decide) ?_
        refine zr_iadd C dL_law_256 ?_
        refine zr_sld C CL h.1 dL_law_257 ?_
        have h := h.2
        refine zr_aload_n C 0 dL_law_258 rfl rfl ?_
        refine zr_iload_n C 3 dL_law_259 rfl rfl ?_
        refine zr_iconst C (v := 4) dL_law_260 (by decide) ?_
        refine zr_iadd C dL_law_261 ?_
        refine zr_sld C CL h.1 dL_law_262 ?_
        have h := h.2
        refine zcI (zrunV C (rest := []) (c_X7_moves X.2.1 G N _ _ _ _ _ _ h) zk_X7_moves zl_L_32 (zRc_6 zo_0) (by decide) (by decide) rfl (Nat.le_of_ble_eq_true rfl) rfl dL_law_263) (fun r18 M19 h => ?_)
        refine zr_aload_n C 2 dL_law_266 rfl rfl ?_
        refine zr_aload_n C 0 dL_law_267 rfl rfl ?_
        refine zr_iload_n C 3 dL_law_268 rfl rfl ?_
        refine zr_iconst C (v := 1) dL_law_269 (by decide) ?_
        refine zr_iadd C dL_law_270 ?_
        refine zr_sld C CL h.1 dL_law_271 ?_
        have h := h.2
        refine zr_aload_n C 0 dL_law_272 rfl rfl ?_
        refine zr_iload_n C 3 dL_law_273 rfl rfl ?_
        refine zr_iconst C (v := 2) dL_law_274 (by decide) ?_
        refine zr_iadd C dL_law_275 ?_
        refine zr_sld C CL h.1 dL_law_276 ?_
        have h := h.2
        refine zr_aload_n C 0 dL_law_277 rfl rfl ?_
        refine zr_iload_n C 3 dL_law_278 rfl rfl ?_
        refine zr_iconst C (v := 3) dL_law_279 (by decide) ?_
        refine zr_iadd C dL_law_280 ?_
        refine zr_sld C CL h.1 dL_law_281 ?_
        have h := h.2
        refine zr_aload_n C 0 dL_law_282 rfl rfl ?_
        refine zr_iload_n C 3 dL_law_283 rfl rfl ?_
        refine zr_iconst C (v := 4) dL_law_284 (by decide) ?_
        refine zr_iadd C dL_law_285 ?_
        refine zr_sld C CL h.1 dL_law_286 ?_
        have h := h.2
        refine zcI (zrunV C (rest := [.int r18]) (c_X8_moves X.2.1 G N _ _ _ _ _ _ h) zk_X8_moves zl_L_35 (zRc_7 zo_47) (by decide) (by decide) rfl (Nat.le_of_ble_eq_true rfl) rfl dL_law_287) (fun r20 M21 h => ?_)
        refine zr_icmp_eq C 889 dL_law_290 (by decide) (fun c => ?_) (fun c => ?_)
        · have h := h.1 c
          exact w_L_law_b889 C CL N Q R _ _ hk18 _ h
        · have h := h.2 c
          refine zr_iconst C (v := 0) dL_law_293 (by decide) ?_
          exact R _ _ _ _ zb_0.1 h dL_law_294
      | 5, _, c =>
        have c : ((xs x3.toNatClampNeg) &&& (31 : Int32)) = (5 : Int32) := c
        have h := h.2.2.2.2.2.1 c
        refine zr_tableIn C 295 dL_law_32 (off := 263) (by rw [c] <;> decide) (by rw [c] <;> decide) (by rw [c] <;> decide) (by decide) ?_
        refine zr_aload_n C 1 dL_law_295 rfl rfl ?_
        refine zr_aload_n C 0 dL_law_296 rfl rfl ?_
        refine zr_iload_n C 3 dL_law_297 rfl rfl ?_
        refine zr_iconst C (v := 1) dL_law_298 (by decide) ?_
        refine zr_iadd C dL_law_299 ?_
        refine zr_sld C CL h.1 dL_law_300 ?_
        have h := h.2
        refine zr_aload_n C 0 dL_law_301 rfl rfl ?_
        refine zr_iload_n C 3 dL_law_302 rfl rfl ?_
        refine zr_iconst C (v := 2) dL_law_303 (by decide) ?_
        refine zr_iadd C dL_law_304 ?_
        refine zr_sld C CL h.1 dL_law_305 ?_
        have h := h.2
        refine zr_aload_n C 0 dL_law_306 rfl rfl ?_
        refine zr_iload_n C 3 dL_law_307 rfl rfl ?_
        refine zr_iconst C (v := 3) dL_law_308 (by decide) ?_
        refine zr_iadd C dL_law_309 ?_
        refine zr_sld C CL h.1 dL_law_310 ?_
        have h := h.2
        refine zcI (zrunV C (rest := []) (c_X7_shifts X.2.1 G N _ _ _ _ _ h) zk_X7_shifts zl_L_36 (zRc_6 zo_0) (by decide) (by decide) rfl (Nat.le_of_ble_eq_true rfl) rfl dL_law_311) (fun r22 M23 h => ?_)
        refine zr_aload_n C 2 dL_law_314 rfl rfl ?_
        refine zr_aload_n C 0 dL_law_315 rfl rfl ?_
        refine zr_iload_n C 3 dL_law_316 rfl rfl ?_
        refine zr_iconst C (v := 1) dL_law_317 (by decide) ?_
        refine zr_iadd C dL_law_318 ?_
        refine zr_sld C CL h.1 dL_law_319 ?_
        have h := h.2
        refine zr_aload_n C 0 dL_law_320 rfl rfl ?_
        refine zr_iload_n C 3 dL_law_321 rfl rfl ?_
        refine zr_iconst C (v := 2) dL_law_322 (by decide) ?_
        refine zr_iadd C dL_law_323 ?_
        refine zr_sld C CL h.1 dL_law_324 ?_
        have h := h.2
        refine zr_aload_n C 0 dL_law_325 rfl rfl ?_
        refine zr_iload_n C 3 dL_law_326 rfl rfl ?_
        refine zr_iconst C (v := 3) dL_law_327 (by decide) ?_
        refine zr_iadd C dL_law_328 ?_
        refine zr_sld C CL h.1 dL_law_329 ?_
        have h := h.2
        refine zcI (zrunV C (rest := [.int r22]) (c_X8_shifts X.2.1 G N _ _ _ _ _ h) zk_X8_shifts zl_L_40 (zRc_7 zo_47) (by decide) (by decide) rfl (Nat.le_of_ble_eq_true rfl) rfl dL_law_330) (fun r24 M25 h => ?_)
        refine zr_icmp_eq C 889 dL_law_333 (by decide) (fun c => ?_) (fun c => ?_)
        · have h := h.1 c
          exact w_L_law_b889 C CL N Q R _ _ hk18 _ h
        · have h := h.2 c
          refine zr_iconst C (v := 0) dL_law_336 (by decide) ?_
          exact R _ _ _ _ zb_0.1 h dL_law_337
      | 6, _, c =>
        have c : ((xs x3.toNatClampNeg) &&& (31 : Int32)) = (6 : Int32) := c
        have h := h.2.2.2.2.2.2.1 c
        refine zr_tableIn C 338 dL_law_32 (off := 306) (by rw [c] <;> decide) (by rw [c] <;> decide) (by rw [c] <;> decide) (by decide) ?_
        refine zr_aload_n C 1 dL_law_338 rfl rfl ?_
        refine zr_aload_n C 0 dL_law_339 rfl rfl ?_
        refine zr_iload_n C 3 dL_law_340 rfl rfl ?_
        refine zr_iconst C (v := 1) dL_law_341 (by decide) ?_
        refine zr_iadd C dL_law_342 ?_
        refine zr_sld C CL h.1 dL_law_343 ?_
        have h := h.2
        refine zcI (zrunV C (rest := []) (c_X7_reverses X.2.1 G N _ _ _ h) zk_X7_reverses zl_L_41 (zRc_6 zo_0) (by decide) (by decide) rfl (Nat.le_of_ble_eq_true rfl) rfl dL_law_344) (fun r26 M27 h => ?_)
        refine zr_aload_n C 2 dL_law_347 rfl rfl ?_
        refine zr_aload_n C 0 dL_law_348 rfl rfl ?_
        refine zr_iload_n C 3 dL_law_349 rfl rfl ?_
        refine zr_iconst C (v := 1) dL_law_350 (by decide) ?_
        refine zr_iadd C dL_law_351 ?_
        refine zr_sld C CL h.1 dL_law_352 ?_
        have h := h.2
        refine zcI (zrunV C (rest := [.int r26]) (c_X8_reverses X.2.1 G N _ _ _ h) zk_X8_reverses zl_L_44 (zRc_7 zo_47) (by decide) (by decide) rfl (Nat.le_of_ble_eq_true rfl) rfl dL_law_353) (fun r28 M29 h => ?_)
        refine zr_icmp_eq C 889 dL_law_356 (by decide) (fun c => ?_) (fun c => ?_)
        · have h := h.1 c
          exact w_L_law_b889 C CL N Q R _ _ hk18 _ h
        · have h := h.2 c
          refine zr_iconst C (v := 0) dL_law_359 (by decide) ?_
          exact R _ _ _ _ zb_0.1 h dL_law_360
      | 7, _, c =>
        have c : ((xs x3.toNatClampNeg) &&& (31 : Int32)) = (7 : Int32) := c
        have h := h.2.2.2.2.2.2.2.1 c
        refine zr_tableIn C 361 dL_law_32 (off := 329) (by rw [c] <;> decide) (by rw [c] <;> decide) (by rw [c] <;> decide) (by decide) ?_
        refine zr_aload_n C 1 dL_law_361 rfl rfl ?_
        refine zcI (zrunV C (rest := []) (c_X7_undo X.2.1 G N  _ _ h) zk_X7_undo zl_L_45 (zRc_6 zo_0) (by decide) (by decide) rfl (Nat.le_of_ble_eq_true rfl) rfl dL_law_362) (fun r30 M31 h => ?_)
        refine zr_aload_n C 2 dL_law_365 rfl rfl ?_
        refine zcI (zrunV C (rest := [.int r30]) (c_X8_undo X.2.1 G N  _ _ h) zk_X8_undo zl_L_48 (zRc_7 zo_47) (by decide) (by decide) rfl (Nat.le_of_ble_eq_true rfl) rfl dL_law_366) (fun r32 M33 h => ?_)
        refine zr_icmp_eq C 889 dL_law_369 (by decide) (fun c => ?_) (fun c => ?_)
        · have h := h.1 c
          exact w_L_law_b889 C CL N Q R _ _ hk18 _ h
        · have h := h.2 c
          refine zr_iconst C (v := 0) dL_law_372 (by decide) ?_
          exact R _ _ _ _ zb_0.1 h dL_law_373
      | 8, _, c =>
        have c : ((xs x3.toNatClampNeg) &&& (31 : Int32)) = (8 : Int32) := c
        have h := h.2.2.2.2.2.2.2.2.1 c
        refine zr_tableIn C 374 dL_law_32 (off := 342) (by rw [c] <;> decide) (by rw [c] <;> decide) (by rw [c] <;> decide) (by decide) ?_
        refine zr_aload_n C 1 dL_law_374 rfl rfl ?_
        refine zr_aload_n C 0 dL_law_375 rfl rfl ?_
        refine zr_iload_n C 3 dL_law_376 rfl rfl ?_
        refine zr_iconst C (v := 1) dL_law_377 (by decide) ?_
        refine zr_iadd C dL_law_378 ?_
        refine zr_sld C CL h.1 dL_law_379 ?_
        have h := h.2
        refine zr_aload_n C 0 dL_law_380 rfl rfl ?_
        refine zr_iload_n C 3 dL_law_381 rfl rfl ?_
        refine zr_iconst C (v := 2) dL_law_382 (by decide) ?_
        refine zr_iadd C dL_law_383 ?_
        refine zr_sld C CL h.1 dL_law_384 ?_
        have h := h.2
        refine zr_aload_n C 0 dL_law_385 rfl rfl ?_
        refine zr_iload_n C 3 dL_law_386 rfl rfl ?_
        refine zr_iconst C (v := 3) dL_law_387 (by decide) ?_
        refine zr_iadd C dL_law_388 ?_
        refine zr_sld C CL h.1 dL_law_389 ?_
        have h := h.2
        refine zr_aload_n C 0 dL_law_390 rfl rfl ?_
        refine zr_iload_n C 3 dL_law_391 rfl rfl ?_
        refine zr_iconst C (v := 4) dL_law_392 (by decide) ?_
        refine zr_iadd C dL_law_393 ?_
        refine zr_sld C CL h.1 dL_law_394 ?_
        have h := h.2
        refine zcI (zrunV C (rest := []) (c_X7_apart X.2.1 G N _ _ _ _ _ _ h) zk_X7_apart zl_L_49 (zRc_6 zo_0) (by decide) (by decide) rfl (Nat.le_of_ble_eq_true rfl) rfl dL_law_395) (fun r34 M35 h => ?_)
        refine zr_aload_n C 2 dL_law_398 rfl rfl ?_
        refine zr_aload_n C 0 dL_law_399 rfl rfl ?_
        refine zr_iload_n C 3 dL_law_400 rfl rfl ?_
        refine zr_iconst C (v := 1) dL_law_401 (by decide) ?_
        refine zr_iadd C dL_law_402 ?_
        refine zr_sld C CL h.1 dL_law_403 ?_
        have h := h.2
        refine zr_aload_n C 0 dL_law_404 rfl rfl ?_
        refine zr_iload_n C 3 dL_law_405 rfl rfl ?_
        refine zr_iconst C (v := 2) dL_law_406 (by decide) ?_
        refine zr_iadd C dL_law_407 ?_
        refine zr_sld C CL h.1 dL_law_408 ?_
        have h := h.2
        refine zr_aload_n C 0 dL_law_409 rfl rfl ?_
        refine zr_iload_n C 3 dL_law_410 rfl rfl ?_
        refine zr_iconst C (v := 3) dL_law_411 (by decide) ?_
        refine zr_iadd C dL_law_412 ?_
        refine zr_sld C CL h.1 dL_law_413 ?_
        have h := h.2
        refine zr_aload_n C 0 dL_law_414 rfl rfl ?_
        refine zr_iload_n C 3 dL_law_415 rfl rfl ?_
        refine zr_iconst C (v := 4) dL_law_416 (by decide) ?_
        refine zr_iadd C dL_law_417 ?_
        refine zr_sld C CL h.1 dL_law_418 ?_
        have h := h.2
        refine zcI (zrunV C (rest := [.int r34]) (c_X8_apart X.2.1 G N _ _ _ _ _ _ h) zk_X8_apart zl_L_52 (zRc_7 zo_47) (by decide) (by decide) rfl (Nat.le_of_ble_eq_true rfl) rfl dL_law_419) (fun r36 M37 h => ?_)
        refine zr_icmp_eq C 889 dL_law_422 (by decide) (fun c => ?_) (fun c => ?_)
        · have h := h.1 c
          exact w_L_law_b889 C CL N Q R _ _ hk18 _ h
        · have h := h.2 c
          refine zr_iconst C (v := 0) dL_law_425 (by decide) ?_
          exact R _ _ _ _ zb_0.1 h dL_law_426
      | 9, _, c =>
        have c : ((xs x3.toNatClampNeg) &&& (31 : Int32)) = (9 : Int32) := c
        have h := h.2.2.2.2.2.2.2.2.2.1 c
        refine zr_tableIn C 427 dL_law_32 (off := 395) (by rw [c] <;> decide) (by rw [c] <;> decide) (by rw [c] <;> decide) (by decide) ?_
        refine zr_aload_n C 1 dL_law_427 rfl rfl ?_
        refine zr_aload_n C 0 dL_law_428 rfl rfl ?_
        refine zr_iload_n C 3 dL_law_429 rfl rfl ?_
        refine zr_iconst C (v := 1) dL_law_430 (by decide) ?_
        refine zr_iadd C dL_law_431 ?_
        refine zr_sld C CL h.1 dL_law_432 ?_
        have h := h.2
        refine zr_aload_n C 0 dL_law_433 rfl rfl ?_
        refine zr_iload_n C 3 dL_law_434 rfl rfl ?_
        refine zr_iconst C (v := 2) dL_law_435 (by decide) ?_
        refine zr_iadd C dL_law_436 ?_
        refine zr_sld C CL h.1 dL_law_437 ?_
        have h := h.2
        refine zr_aload_n C 0 dL_law_438 rfl rfl ?_
        refine zr_iload_n C 3 dL_law_439 rfl rfl ?_
        refine zr_iconst C (v := 3) dL_law_440 (by decide) ?_
        refine zr_iadd C dL_law_441 ?_
        refine zr_sld C CL h.1 dL_law_442 ?_
        have h := h.2
        refine zr_aload_n C 0 dL_law_443 rfl rfl ?_
        refine zr_iload_n C 3 dL_law_444 rfl rfl ?_
        refine zr_iconst C (v := 4) dL_law_445 (by decide) ?_
        refine zr_iadd C dL_law_446 ?_
        refine zr_sld C CL h.1 dL_law_447 ?_
        have h := h.2
        refine zcI (zrunV C (rest := []) (c_X7_turn X.2.1 G N _ _ _ _ _ _ h) zk_X7_turn zl_L_53 (zRc_6 zo_0) (by decide) (by decide) rfl (Nat.le_of_ble_eq_true rfl) rfl dL_law_448) (fun r38 M39 h => ?_)
        refine zr_aload_n C 2 dL_law_451 rfl rfl ?_
        refine zr_aload_n C 0 dL_law_452 rfl rfl ?_
        refine zr_iload_n C 3 dL_law_453 rfl rfl ?_
        refine zr_iconst C (v := 1) dL_law_454 (by decide) ?_
        refine zr_iadd C dL_law_455 ?_
        refine zr_sld C CL h.1 dL_law_456 ?_
        have h := h.2
        refine zr_aload_n C 0 dL_law_457 rfl rfl ?_
        refine zr_iload_n C 3 dL_law_458 rfl rfl ?_
        refine zr_iconst C (v := 2) dL_law_459 (by decide) ?_
        refine zr_iadd C dL_law_460 ?_
        refine zr_sld C CL h.1 dL_law_461 ?_
        have h := h.2
        refine zr_aload_n C 0 dL_law_462 rfl rfl ?_
        refine zr_iload_n C 3 dL_law_463 rfl rfl ?_
        refine zr_iconst C (v := 3) dL_law_464 (by decide) ?_
        refine zr_iadd C dL_law_465 ?_
        refine zr_sld C CL h.1 dL_law_466 ?_
        have h := h.2
        refine zr_aload_n C 0 dL_law_467 rfl rfl ?_
        refine zr_iload_n C 3 dL_law_468 rfl rfl ?_
        refine zr_iconst C (v := 4) dL_law_469 (by decide) ?_
        refine zr_iadd C dL_law_470 ?_
        refine zr_sld C CL h.1 dL_law_471 ?_
        have h := h.2
        refine zcI (zrunV C (rest := [.int r38]) (c_X8_turn X.2.1 G N _ _ _ _ _ _ h) zk_X8_turn zl_L_56 (zRc_7 zo_47) (by decide) (by decide) rfl (Nat.le_of_ble_eq_true rfl) rfl dL_law_472) (fun r40 M41 h => ?_)
        refine zr_icmp_eq C 889 dL_law_475 (by decide) (fun c => ?_) (fun c => ?_)
        · have h := h.1 c
          exact w_L_law_b889 C CL N Q R _ _ hk18 _ h
        · have h := h.2 c
          refine zr_iconst C (v := 0) dL_law_478 (by decide) ?_
          exact R _ _ _ _ zb_0.1 h dL_law_479
      | 10, _, c =>
        have c : ((xs x3.toNatClampNeg) &&& (31 : Int32)) = (10 : Int32) := c
        have h := h.2.2.2.2.2.2.2.2.2.2.1 c
        refine zr_tableIn C 480 dL_law_32 (off := 448) (by rw [c] <;> decide) (by rw [c] <;> decide) (by rw [c] <;> decide) (by decide) ?_
        refine zr_aload_n C 1 dL_law_480 rfl rfl ?_
        refine zr_aload_n C 0 dL_law_481 rfl rfl ?_
        refine zr_iload_n C 3 dL_law_482 rfl rfl ?_
        refine zr_iconst C (v := 1) dL_law_483 (by decide) ?_
        refine zr_iadd C dL_law_484 ?_
        refine zr_sld C CL h.1 dL_law_485 ?_
        have h := h.2
        refine zr_aload_n C 0 dL_law_486 rfl rfl ?_
        refine zr_iload_n C 3 dL_law_487 rfl rfl ?_
        refine zr_iconst C (v := 2) dL_law_488 (by decide) ?_
        refine zr_iadd C dL_law_489 ?_
        refine zr_sld C CL h.1 dL_law_490 ?_
        have h := h.2
        refine zcI (zrunV C (rest := []) (c_X7_bends X.2.1 G N _ _ _ _ h) zk_X7_bends zl_L_57 (zRc_6 zo_0) (by decide) (by decide) rfl (Nat.le_of_ble_eq_true rfl) rfl dL_law_491) (fun r42 M43 h => ?_)
        refine zr_aload_n C 2 dL_law_494 rfl rfl ?_
        refine zr_aload_n C 0 dL_law_495 rfl rfl ?_
        refine zr_iload_n C 3 dL_law_496 rfl rfl ?_
        refine zr_iconst C (v := 1) dL_law_497 (by decide) ?_
        refine zr_iadd C dL_law_498 ?_
        refine zr_sld C CL h.1 dL_law_499 ?_
        have h := h.2
        refine zr_aload_n C 0 dL_law_500 rfl rfl ?_
        refine zr_iload_n C 3 dL_law_501 rfl rfl ?_
        refine zr_iconst C (v := 2) dL_law_502 (by decide) ?_
        refine zr_iadd C dL_law_503 ?_
        refine zr_sld C CL h.1 dL_law_504 ?_
        have h := h.2
        refine zcI (zrunV C (rest := [.int r42]) (c_X8_bends X.2.1 G N _ _ _ _ h) zk_X8_bends zl_L_61 (zRc_7 zo_47) (by decide) (by decide) rfl (Nat.le_of_ble_eq_true rfl) rfl dL_law_505) (fun r44 M45 h => ?_)
        refine zr_icmp_eq C 889 dL_law_508 (by decide) (fun c => ?_) (fun c => ?_)
        · have h := h.1 c
          exact w_L_law_b889 C CL N Q R _ _ hk18 _ h
        · have h := h.2 c
          refine zr_iconst C (v := 0) dL_law_511 (by decide) ?_
          exact R _ _ _ _ zb_0.1 h dL_law_512
      | 11, _, c =>
        have c : ((xs x3.toNatClampNeg) &&& (31 : Int32)) = (11 : Int32) := c
        have h := h.2.2.2.2.2.2.2.2.2.2.2.1 c
        refine zr_tableIn C 513 dL_law_32 (off := 481) (by rw [c] <;> decide) (by rw [c] <;> decide) (by rw [c] <;> decide) (by decide) ?_
        refine zr_aload_n C 1 dL_law_513 rfl rfl ?_
        refine zr_aload_n C 0 dL_law_514 rfl rfl ?_
        refine zr_iload_n C 3 dL_law_515 rfl rfl ?_
        refine zr_iconst C (v := 1) dL_law_516 (by decide) ?_
        refine zr_iadd C dL_law_517 ?_
        refine zr_sld C CL h.1 dL_law_518 ?_
        have h := h.2
        refine zr_aload_n C 0 dL_law_519 rfl rfl ?_
        refine zr_iload_n C 3 dL_law_520 rfl rfl ?_
        refine zr_iconst C (v := 2) dL_law_521 (by decide) ?_
        refine zr_iadd C dL_law_522 ?_
        refine zr_sld C CL h.1 dL_law_523 ?_
        have h := h.2
        refine zr_aload_n C 0 dL_law_524 rfl rfl ?_
        refine zr_iload_n C 3 dL_law_525 rfl rfl ?_
        refine zr_iconst C (v := 3) dL_law_526 (by decide) ?_
        refine zr_iadd C dL_law_527 ?_
        refine zr_sld C CL h.1 dL_law_528 ?_
        have h := h.2
        refine zcI (zrunV C (rest := []) (c_X7_goes X.2.1 G N _ _ _ _ _ h) zk_X7_goes zl_L_62 (zRc_6 zo_0) (by decide) (by decide) rfl (Nat.le_of_ble_eq_true rfl) rfl dL_law_529) (fun r46 M47 h => ?_)
        refine zr_aload_n C 2 dL_law_532 rfl rfl ?_
        refine zr_aload_n C 0 dL_law_533 rfl rfl ?_
        refine zr_iload_n C 3 dL_law_534 rfl rfl ?_
        refine zr_iconst C (v := 1) dL_law_535 (by decide) ?_
        refine zr_iadd C dL_law_536 ?_
        refine zr_sld C CL h.1 dL_law_537 ?_
        have h := h.2
        refine zr_aload_n C 0 dL_law_538 rfl rfl ?_
        refine zr_iload_n C 3 dL_law_539 rfl rfl ?_
        refine zr_iconst C (v := 2) dL_law_540 (by decide) ?_
        refine zr_iadd C dL_law_541 ?_
        refine zr_sld C CL h.1 dL_law_542 ?_
        have h := h.2
        refine zr_aload_n C 0 dL_law_543 rfl rfl ?_
        refine zr_iload_n C 3 dL_law_544 rfl rfl ?_
        refine zr_iconst C (v := 3) dL_law_545 (by decide) ?_
        refine zr_iadd C dL_law_546 ?_
        refine zr_sld C CL h.1 dL_law_547 ?_
        have h := h.2
        refine zcI (zrunV C (rest := [.int r46]) (c_X8_goes X.2.1 G N _ _ _ _ _ h) zk_X8_goes zl_L_65 (zRc_7 zo_47) (by decide) (by decide) rfl (Nat.le_of_ble_eq_true rfl) rfl dL_law_548) (fun r48 M49 h => ?_)
        refine zr_icmp_eq C 889 dL_law_551 (by decide) (fun c => ?_) (fun c => ?_)
        · have h := h.1 c
          exact w_L_law_b889 C CL N Q R _ _ hk18 _ h
        · have h := h.2 c
          refine zr_iconst C (v := 0) dL_law_554 (by decide) ?_
          exact R _ _ _ _ zb_0.1 h dL_law_555
      | 12, _, c =>
        have c : ((xs x3.toNatClampNeg) &&& (31 : Int32)) = (12 : Int32) := c
        have h := h.2.2.2.2.2.2.2.2.2.2.2.2.1 c
        refine zr_tableIn C 556 dL_law_32 (off := 524) (by rw [c] <;> decide) (by rw [c] <;> decide) (by rw [c] <;> decide) (by decide) ?_
        refine zr_aload_n C 1 dL_law_556 rfl rfl ?_
        refine zr_aload_n C 0 dL_law_557 rfl rfl ?_
        refine zr_iload_n C 3 dL_law_558 rfl rfl ?_
        refine zr_iconst C (v := 1) dL_law_559 (by decide) ?_
        refine zr_iadd C dL_law_560 ?_
        refine zr_sld C CL h.1 dL_law_561 ?_
        have h := h.2
        refine zr_aload_n C 0 dL_law_562 rfl rfl ?_
        refine zr_iload_n C 3 dL_law_563 rfl rfl ?_
        refine zr_iconst C (v := 2) dL_law_564 (by decide) ?_
        refine zr_iadd C dL_law_565 ?_
        refine zr_sld C CL h.1 dL_law_566 ?_
        have h := h.2
        refine zcI (zrunV C (rest := []) (c_X7_area X.2.1 G N _ _ _ _ h) zk_X7_area zl_L_66 (zRc_6 zo_0) (by decide) (by decide) rfl (Nat.le_of_ble_eq_true rfl) rfl dL_law_567) (fun r50 M51 h => ?_)
        refine zr_aload_n C 2 dL_law_570 rfl rfl ?_
        refine zr_aload_n C 0 dL_law_571 rfl rfl ?_
        refine zr_iload_n C 3 dL_law_572 rfl rfl ?_
        refine zr_iconst C (v := 1) dL_law_573 (by decide) ?_
        refine zr_iadd C dL_law_574 ?_
        refine zr_sld C CL h.1 dL_law_575 ?_
        have h := h.2
        refine zr_aload_n C 0 dL_law_576 rfl rfl ?_
        refine zr_iload_n C 3 dL_law_577 rfl rfl ?_
        refine zr_iconst C (v := 2) dL_law_578 (by decide) ?_
        refine zr_iadd C dL_law_579 ?_
        refine zr_sld C CL h.1 dL_law_580 ?_
        have h := h.2
        refine zcI (zrunV C (rest := [.int r50]) (c_X8_area X.2.1 G N _ _ _ _ h) zk_X8_area zl_L_69 (zRc_7 zo_47) (by decide) (by decide) rfl (Nat.le_of_ble_eq_true rfl) rfl dL_law_581) (fun r52 M53 h => ?_)
        refine zr_icmp_eq C 889 dL_law_584 (by decide) (fun c => ?_) (fun c => ?_)
        · have h := h.1 c
          exact w_L_law_b889 C CL N Q R _ _ hk18 _ h
        · have h := h.2 c
          refine zr_iconst C (v := 0) dL_law_587 (by decide) ?_
          exact R _ _ _ _ zb_0.1 h dL_law_588
      | 13, _, c =>
        have c : ((xs x3.toNatClampNeg) &&& (31 : Int32)) = (13 : Int32) := c
        have h := h.2.2.2.2.2.2.2.2.2.2.2.2.2.1 c
        refine zr_tableIn C 589 dL_law_32 (off := 557) (by rw [c] <;> decide) (by rw [c] <;> decide) (by rw [c] <;> decide) (by decide) ?_
        refine zr_aload_n C 1 dL_law_589 rfl rfl ?_
        refine zr_aload_n C 0 dL_law_590 rfl rfl ?_
        refine zr_iload_n C 3 dL_law_591 rfl rfl ?_
        refine zr_iconst C (v := 1) dL_law_592 (by decide) ?_
        refine zr_iadd C dL_law_593 ?_
        refine zr_sld C CL h.1 dL_law_594 ?_
        have h := h.2
        refine zr_aload_n C 0 dL_law_595 rfl rfl ?_
        refine zr_iload_n C 3 dL_law_596 rfl rfl ?_
        refine zr_iconst C (v := 2) dL_law_597 (by decide) ?_
        refine zr_iadd C dL_law_598 ?_
        refine zr_sld C CL h.1 dL_law_599 ?_
        have h := h.2
        refine zr_aload_n C 0 dL_law_600 rfl rfl ?_
        refine zr_iload_n C 3 dL_law_601 rfl rfl ?_
        refine zr_iconst C (v := 3) dL_law_602 (by decide) ?_
        refine zr_iadd C dL_law_603 ?_
        refine zr_sld C CL h.1 dL_law_604 ?_
        have h := h.2
        refine zcI (zrunV C (rest := []) (c_X7_meets X.2.1 G N _ _ _ _ _ h) zk_X7_meets zl_L_70 (zRc_6 zo_0) (by decide) (by decide) rfl (Nat.le_of_ble_eq_true rfl) rfl dL_law_605) (fun r54 M55 h => ?_)
        refine zr_aload_n C 2 dL_law_608 rfl rfl ?_
        refine zr_aload_n C 0 dL_law_609 rfl rfl ?_
        refine zr_iload_n C 3 dL_law_610 rfl rfl ?_
        refine zr_iconst C (v := 1) dL_law_611 (by decide) ?_
        refine zr_iadd C dL_law_612 ?_
        refine zr_sld C CL h.1 dL_law_613 ?_
        have h := h.2
        refine zr_aload_n C 0 dL_law_614 rfl rfl ?_
        refine zr_iload_n C 3 dL_law_615 rfl rfl ?_
        refine zr_iconst C (v := 2) dL_law_616 (by decide) ?_
        refine zr_iadd C dL_law_617 ?_
        refine zr_sld C CL h.1 dL_law_618 ?_
        have h := h.2
        refine zr_aload_n C 0 dL_law_619 rfl rfl ?_
        refine zr_iload_n C 3 dL_law_620 rfl rfl ?_
        refine zr_iconst C (v := 3) dL_law_621 (by decide) ?_
        refine zr_iadd C dL_law_622 ?_
        refine zr_sld C CL h.1 dL_law_623 ?_
        have h := h.2
        refine zcI (zrunV C (rest := [.int r54]) (c_X8_meets X.2.1 G N _ _ _ _ _ h) zk_X8_meets zl_L_73 (zRc_7 zo_47) (by decide) (by decide) rfl (Nat.le_of_ble_eq_true rfl) rfl dL_law_624) (fun r56 M57 h => ?_)
        refine zr_icmp_eq C 889 dL_law_627 (by decide) (fun c => ?_) (fun c => ?_)
        · have h := h.1 c
          exact w_L_law_b889 C CL N Q R _ _ hk18 _ h
        · have h := h.2 c
          refine zr_iconst C (v := 0) dL_law_630 (by decide) ?_
          exact R _ _ _ _ zb_0.1 h dL_law_631
      | 14, _, c =>
        have c : ((xs x3.toNatClampNeg) &&& (31 : Int32)) = (14 : Int32) := c
        have h := h.2.2.2.2.2.2.2.2.2.2.2.2.2.2.1 c
        refine zr_tableIn C 632 dL_law_32 (off := 600) (by rw [c] <;> decide) (by rw [c] <;> decide) (by rw [c] <;> decide) (by decide) ?_
        refine zr_aload_n C 1 dL_law_632 rfl rfl ?_
        refine zr_aload_n C 0 dL_law_633 rfl rfl ?_
        refine zr_iload_n C 3 dL_law_634 rfl rfl ?_
        refine zr_iconst C (v := 1) dL_law_635 (by decide) ?_
        refine zr_iadd C dL_law_636 ?_
        refine zr_sld C CL h.1 dL_law_637 ?_
        have h := h.2
        refine zr_aload_n C 0 dL_law_638 rfl rfl ?_
        refine zr_iload_n C 3 dL_law_639 rfl rfl ?_
        refine zr_iconst C (v := 2) dL_law_640 (by decide) ?_
        refine zr_iadd C dL_law_641 ?_
        refine zr_sld C CL h.1 dL_law_642 ?_
        have h := h.2
        refine zr_aload_n C 0 dL_law_643 rfl rfl ?_
        refine zr_iload_n C 3 dL_law_644 rfl rfl ?_
        refine zr_iconst C (v := 3) dL_law_645 (by decide) ?_
        refine zr_iadd C dL_law_646 ?_
        refine zr_sld C CL h.1 dL_law_647 ?_
        have h := h.2
        refine zr_aload_n C 0 dL_law_648 rfl rfl ?_
        refine zr_iload_n C 3 dL_law_649 rfl rfl ?_
        refine zr_iconst C (v := 4) dL_law_650 (by decide) ?_
        refine zr_iadd C dL_law_651 ?_
        refine zr_sld C CL h.1 dL_law_652 ?_
        have h := h.2
        refine zcI (zrunV C (rest := []) (c_X7_meeting X.2.1 G N _ _ _ _ _ _ h) zk_X7_meeting zl_L_74 (zRc_6 zo_0) (by decide) (by decide) rfl (Nat.le_of_ble_eq_true rfl) rfl dL_law_653) (fun r58 M59 h => ?_)
        refine zr_aload_n C 2 dL_law_656 rfl rfl ?_
        refine zr_aload_n C 0 dL_law_657 rfl rfl ?_
        refine zr_iload_n C 3 dL_law_658 rfl rfl ?_
        refine zr_iconst C (v := 1) dL_law_659 (by decide) ?_
        refine zr_iadd C dL_law_660 ?_
        refine zr_sld C CL h.1 dL_law_661 ?_
        have h := h.2
        refine zr_aload_n C 0 dL_law_662 rfl rfl ?_
        refine zr_iload_n C 3 dL_law_663 rfl rfl ?_
        refine zr_iconst C (v := 2) dL_law_664 (by decide) ?_
        refine zr_iadd C dL_law_665 ?_
        refine zr_sld C CL h.1 dL_law_666 ?_
        have h := h.2
        refine zr_aload_n C 0 dL_law_667 rfl rfl ?_
        refine zr_iload_n C 3 dL_law_668 rfl rfl ?_
        refine zr_iconst C (v := 3) dL_law_669 (by decide) ?_
        refine zr_iadd C dL_law_670 ?_
        refine zr_sld C CL h.1 dL_law_671 ?_
        have h := h.2
        refine zr_aload_n C 0 dL_law_672 rfl rfl ?_
        refine zr_iload_n C 3 dL_law_673 rfl rfl ?_
        refine zr_iconst C (v := 4) dL_law_674 (by decide) ?_
        refine zr_iadd C dL_law_675 ?_
        refine zr_sld C CL h.1 dL_law_676 ?_
        have h := h.2
        refine zcI (zrunV C (rest := [.int r58]) (c_X8_meeting X.2.1 G N _ _ _ _ _ _ h) zk_X8_meeting zl_L_77 (zRc_7 zo_47) (by decide) (by decide) rfl (Nat.le_of_ble_eq_true rfl) rfl dL_law_677) (fun r60 M61 h => ?_)
        refine zr_icmp_eq C 889 dL_law_680 (by decide) (fun c => ?_) (fun c => ?_)
        · have h := h.1 c
          exact w_L_law_b889 C CL N Q R _ _ hk18 _ h
        · have h := h.2 c
          refine zr_iconst C (v := 0) dL_law_683 (by decide) ?_
          exact R _ _ _ _ zb_0.1 h dL_law_684
      | 15, _, c =>
        have c : ((xs x3.toNatClampNeg) &&& (31 : Int32)) = (15 : Int32) := c
        have h := h.2.2.2.2.2.2.2.2.2.2.2.2.2.2.2.1 c
        refine zr_tableIn C 685 dL_law_32 (off := 653) (by rw [c] <;> decide) (by rw [c] <;> decide) (by rw [c] <;> decide) (by decide) ?_
        refine zr_aload_n C 1 dL_law_685 rfl rfl ?_
        refine zr_aload_n C 0 dL_law_686 rfl rfl ?_
        refine zr_iload_n C 3 dL_law_687 rfl rfl ?_
        refine zr_iconst C (v := 1) dL_law_688 (by decide) ?_
        refine zr_iadd C dL_law_689 ?_
        refine zr_sld C CL h.1 dL_law_690 ?_
        have h := h.2
        refine zr_aload_n C 0 dL_law_691 rfl rfl ?_
        refine zr_iload_n C 3 dL_law_692 rfl rfl ?_
        refine zr_iconst C (v := 2) dL_law_693 (by decide) ?_
        refine zr_iadd C dL_law_694 ?_
        refine zr_sld C CL h.1 dL_law_695 ?_
        have h := h.2
        refine zr_aload_n C 0 dL_law_696 rfl rfl ?_
        refine zr_iload_n C 3 dL_law_697 rfl rfl ?_
        refine zr_iconst C (v := 3) dL_law_698 (by decide) ?_
        refine zr_iadd C dL_law_699 ?_
        refine zr_sld C CL h.1 dL_law_700 ?_
        have h := h.2
        refine zr_aload_n C 0 dL_law_701 rfl rfl ?_
        refine zr_iload_n C 3 dL_law_702 rfl rfl ?_
        refine zr_iconst C (v := 4) dL_law_703 (by decide) ?_
        refine zr_iadd C dL_law_704 ?_
        refine zr_sld C CL h.1 dL_law_705 ?_
        have h := h.2
        refine zcI (zrunV C (rest := []) (c_X7_spot X.2.1 G N _ _ _ _ _ _ h) zk_X7_spot zl_L_78 (zRc_6 zo_0) (by decide) (by decide) rfl (Nat.le_of_ble_eq_true rfl) rfl dL_law_706) (fun r62 M63 h => ?_)
        refine zr_aload_n C 2 dL_law_709 rfl rfl ?_
        refine zr_aload_n C 0 dL_law_710 rfl rfl ?_
        refine zr_iload_n C 3 dL_law_711 rfl rfl ?_
        refine zr_iconst C (v := 1) dL_law_712 (by decide) ?_
        refine zr_iadd C dL_law_713 ?_
        refine zr_sld C CL h.1 dL_law_714 ?_
        have h := h.2
        refine zr_aload_n C 0 dL_law_715 rfl rfl ?_
        refine zr_iload_n C 3 dL_law_716 rfl rfl ?_
        refine zr_iconst C (v := 2) dL_law_717 (by decide) ?_
        refine zr_iadd C dL_law_718 ?_
        refine zr_sld C CL h.1 dL_law_719 ?_
        have h := h.2
        refine zr_aload_n C 0 dL_law_720 rfl rfl ?_
        refine zr_iload_n C 3 dL_law_721 rfl rfl ?_
        refine zr_iconst C (v := 3) dL_law_722 (by decide) ?_
        refine zr_iadd C dL_law_723 ?_
        refine zr_sld C CL h.1 dL_law_724 ?_
        have h := h.2
        refine zr_aload_n C 0 dL_law_725 rfl rfl ?_
        refine zr_iload_n C 3 dL_law_726 rfl rfl ?_
        refine zr_iconst C (v := 4) dL_law_727 (by decide) ?_
        refine zr_iadd C dL_law_728 ?_
        refine zr_sld C CL h.1 dL_law_729 ?_
        have h := h.2
        refine zcI (zrunV C (rest := [.int r62]) (c_X8_spot X.2.1 G N _ _ _ _ _ _ h) zk_X8_spot zl_L_81 (zRc_7 zo_47) (by decide) (by decide) rfl (Nat.le_of_ble_eq_true rfl) rfl dL_law_730) (fun r64 M65 h => ?_)
        refine zr_icmp_eq C 889 dL_law_733 (by decide) (fun c => ?_) (fun c => ?_)
        · have h := h.1 c
          exact w_L_law_b889 C CL N Q R _ _ hk18 _ h
        · have h := h.2 c
          refine zr_iconst C (v := 0) dL_law_736 (by decide) ?_
          exact R _ _ _ _ zb_0.1 h dL_law_737
      | 16, _, c =>
        have c : ((xs x3.toNatClampNeg) &&& (31 : Int32)) = (16 : Int32) := c
        have h := h.2.2.2.2.2.2.2.2.2.2.2.2.2.2.2.2.1 c
        refine zr_tableIn C 738 dL_law_32 (off := 706) (by rw [c] <;> decide) (by rw [c] <;> decide) (by rw [c] <;> decide) (by decide) ?_
        refine zr_aload_n C 1 dL_law_738 rfl rfl ?_
        refine zr_aload_n C 0 dL_law_739 rfl rfl ?_
        refine zr_iload_n C 3 dL_law_740 rfl rfl ?_
        refine zr_iconst C (v := 1) dL_law_741 (by decide) ?_
        refine zr_iadd C dL_law_742 ?_
        refine zr_sld C CL h.1 dL_law_743 ?_
        have h := h.2
        refine zcI (zrunV C (rest := []) (c_X7_busiest X.2.1 G N _ _ _ h) zk_X7_busiest zl_L_82 (zRc_6 zo_0) (by decide) (by decide) rfl (Nat.le_of_ble_eq_true rfl) rfl dL_law_744) (fun r66 M67 h => ?_)
        refine zr_aload_n C 2 dL_law_747 rfl rfl ?_
        refine zr_aload_n C 0 dL_law_748 rfl rfl ?_
        refine zr_iload_n C 3 dL_law_749 rfl rfl ?_
        refine zr_iconst C (v := 1) dL_law_750 (by decide) ?_
        refine zr_iadd C dL_law_751 ?_
        refine zr_sld C CL h.1 dL_law_752 ?_
        have h := h.2
        refine zcI (zrunV C (rest := [.int r66]) (c_X8_busiest X.2.1 G N _ _ _ h) zk_X8_busiest zl_L_85 (zRc_7 zo_47) (by decide) (by decide) rfl (Nat.le_of_ble_eq_true rfl) rfl dL_law_753) (fun r68 M69 h => ?_)
        refine zr_icmp_eq C 889 dL_law_756 (by decide) (fun c => ?_) (fun c => ?_)
        · have h := h.1 c
          exact w_L_law_b889 C CL N Q R _ _ hk18 _ h
        · have h := h.2 c
          refine zr_iconst C (v := 0) dL_law_759 (by decide) ?_
          exact R _ _ _ _ zb_0.1 h dL_law_760
      | 17, _, c =>
        have c : ((xs x3.toNatClampNeg) &&& (31 : Int32)) = (17 : Int32) := c
        have h := h.2.2.2.2.2.2.2.2.2.2.2.2.2.2.2.2.2.1 c
        refine zr_tableIn C 761 dL_law_32 (off := 729) (by rw [c] <;> decide) (by rw [c] <;> decide) (by rw [c] <;> decide) (by decide) ?_
        refine zr_aload_n C 1 dL_law_761 rfl rfl ?_
        refine zr_aload_n C 0 dL_law_762 rfl rfl ?_
        refine zr_iload_n C 3 dL_law_763 rfl rfl ?_
        refine zr_iconst C (v := 1) dL_law_764 (by decide) ?_
        refine zr_iadd C dL_law_765 ?_
        refine zr_sld C CL h.1 dL_law_766 ?_
        have h := h.2
        refine zr_aload_n C 0 dL_law_767 rfl rfl ?_
        refine zr_iload_n C 3 dL_law_768 rfl rfl ?_
        refine zr_iconst C (v := 2) dL_law_769 (by decide) ?_
        refine zr_iadd C dL_law_770 ?_
        refine zr_sld C CL h.1 dL_law_771 ?_
        have h := h.2
        refine zcI (zrunV C (rest := []) (c_X7_sees X.2.1 G N _ _ _ _ h) zk_X7_sees zl_L_86 (zRc_6 zo_0) (by decide) (by decide) rfl (Nat.le_of_ble_eq_true rfl) rfl dL_law_772) (fun r70 M71 h => ?_)
        refine zr_aload_n C 2 dL_law_775 rfl rfl ?_
        refine zr_aload_n C 0 dL_law_776 rfl rfl ?_
        refine zr_iload_n C 3 dL_law_777 rfl rfl ?_
        refine zr_iconst C (v := 1) dL_law_778 (by decide) ?_
        refine zr_iadd C dL_law_779 ?_
        refine zr_sld C CL h.1 dL_law_780 ?_
        have h := h.2
        refine zr_aload_n C 0 dL_law_781 rfl rfl ?_
        refine zr_iload_n C 3 dL_law_782 rfl rfl ?_
        refine zr_iconst C (v := 2) dL_law_783 (by decide) ?_
        refine zr_iadd C dL_law_784 ?_
        refine zr_sld C CL h.1 dL_law_785 ?_
        have h := h.2
        refine zcI (zrunV C (rest := [.int r70]) (c_X8_sees X.2.1 G N _ _ _ _ h) zk_X8_sees zl_L_89 (zRc_7 zo_47) (by decide) (by decide) rfl (Nat.le_of_ble_eq_true rfl) rfl dL_law_786) (fun r72 M73 h => ?_)
        refine zr_icmp_eq C 889 dL_law_789 (by decide) (fun c => ?_) (fun c => ?_)
        · have h := h.1 c
          exact w_L_law_b889 C CL N Q R _ _ hk18 _ h
        · have h := h.2 c
          refine zr_iconst C (v := 0) dL_law_792 (by decide) ?_
          exact R _ _ _ _ zb_0.1 h dL_law_793
      | 18, _, c =>
        have c : ((xs x3.toNatClampNeg) &&& (31 : Int32)) = (18 : Int32) := c
        have h := h.2.2.2.2.2.2.2.2.2.2.2.2.2.2.2.2.2.2.1 c
        refine zr_tableIn C 794 dL_law_32 (off := 762) (by rw [c] <;> decide) (by rw [c] <;> decide) (by rw [c] <;> decide) (by decide) ?_
        refine zr_aload_n C 1 dL_law_794 rfl rfl ?_
        refine zcI (zrunV C (rest := []) (c_X7_forget X.2.1 G N  _ _ h) zk_X7_forget zl_L_90 (zRc_6 zo_0) (by decide) (by decide) rfl (Nat.le_of_ble_eq_true rfl) rfl dL_law_795) (fun r74 M75 h => ?_)
        refine zr_aload_n C 2 dL_law_798 rfl rfl ?_
        refine zcI (zrunV C (rest := [.int r74]) (c_X8_forget X.2.1 G N  _ _ h) zk_X8_forget zl_L_93 (zRc_7 zo_47) (by decide) (by decide) rfl (Nat.le_of_ble_eq_true rfl) rfl dL_law_799) (fun r76 M77 h => ?_)
        refine zr_icmp_eq C 889 dL_law_802 (by decide) (fun c => ?_) (fun c => ?_)
        · have h := h.1 c
          exact w_L_law_b889 C CL N Q R _ _ hk18 _ h
        · have h := h.2 c
          refine zr_iconst C (v := 0) dL_law_805 (by decide) ?_
          exact R _ _ _ _ zb_0.1 h dL_law_806
      | 19, _, c =>
        have c : ((xs x3.toNatClampNeg) &&& (31 : Int32)) = (19 : Int32) := c
        have h := h.2.2.2.2.2.2.2.2.2.2.2.2.2.2.2.2.2.2.2.1 c
        refine zr_tableIn C 807 dL_law_32 (off := 775) (by rw [c] <;> decide) (by rw [c] <;> decide) (by rw [c] <;> decide) (by decide) ?_
        refine zr_aload_n C 1 dL_law_807 rfl rfl ?_
        refine zcI (zrunV C (rest := []) (c_X7_unseen X.2.1 G N  _ _ h) zk_X7_unseen zl_L_94 (zRc_6 zo_0) (by decide) (by decide) rfl (Nat.le_of_ble_eq_true rfl) rfl dL_law_808) (fun r78 M79 h => ?_)
        refine zr_aload_n C 2 dL_law_811 rfl rfl ?_
        refine zcI (zrunV C (rest := [.int r78]) (c_X8_unseen X.2.1 G N  _ _ h) zk_X8_unseen zl_L_97 (zRc_7 zo_47) (by decide) (by decide) rfl (Nat.le_of_ble_eq_true rfl) rfl dL_law_812) (fun r80 M81 h => ?_)
        refine zr_icmp_eq C 889 dL_law_815 (by decide) (fun c => ?_) (fun c => ?_)
        · have h := h.1 c
          exact w_L_law_b889 C CL N Q R _ _ hk18 _ h
        · have h := h.2 c
          refine zr_iconst C (v := 0) dL_law_818 (by decide) ?_
          exact R _ _ _ _ zb_0.1 h dL_law_819
      | 20, _, c =>
        have c : ((xs x3.toNatClampNeg) &&& (31 : Int32)) = (20 : Int32) := c
        have h := h.2.2.2.2.2.2.2.2.2.2.2.2.2.2.2.2.2.2.2.2.1 c
        refine zr_tableIn C 820 dL_law_32 (off := 788) (by rw [c] <;> decide) (by rw [c] <;> decide) (by rw [c] <;> decide) (by decide) ?_
        refine zr_aload_n C 1 dL_law_820 rfl rfl ?_
        refine zr_aload_n C 0 dL_law_821 rfl rfl ?_
        refine zr_iload_n C 3 dL_law_822 rfl rfl ?_
        refine zr_iconst C (v := 1) dL_law_823 (by decide) ?_
        refine zr_iadd C dL_law_824 ?_
        refine zr_sld C CL h.1 dL_law_825 ?_
        have h := h.2
        refine zcI (zrunV C (rest := []) (c_X7_keep X.2.1 G N _ _ _ h) zk_X7_keep zl_L_98 (zRc_6 zo_0) (by decide) (by decide) rfl (Nat.le_of_ble_eq_true rfl) rfl dL_law_826) (fun r82 M83 h => ?_)
        refine zr_aload_n C 2 dL_law_829 rfl rfl ?_
        refine zr_aload_n C 0 dL_law_830 rfl rfl ?_
        refine zr_iload_n C 3 dL_law_831 rfl rfl ?_
        refine zr_iconst C (v := 1) dL_law_832 (by decide) ?_
        refine zr_iadd C dL_law_833 ?_
        refine zr_sld C CL h.1 dL_law_834 ?_
        have h := h.2
        refine zcI (zrunV C (rest := [.int r82]) (c_X8_keep X.2.1 G N _ _ _ h) zk_X8_keep zl_L_101 (zRc_7 zo_47) (by decide) (by decide) rfl (Nat.le_of_ble_eq_true rfl) rfl dL_law_835) (fun r84 M85 h => ?_)
        refine zr_icmp_eq C 889 dL_law_838 (by decide) (fun c => ?_) (fun c => ?_)
        · have h := h.1 c
          exact w_L_law_b889 C CL N Q R _ _ hk18 _ h
        · have h := h.2 c
          refine zr_iconst C (v := 0) dL_law_841 (by decide) ?_
          exact R _ _ _ _ zb_0.1 h dL_law_842
      | 21, _, c =>
        have c : ((xs x3.toNatClampNeg) &&& (31 : Int32)) = (21 : Int32) := c
        have h := h.2.2.2.2.2.2.2.2.2.2.2.2.2.2.2.2.2.2.2.2.2.1 c
        refine zr_tableIn C 843 dL_law_32 (off := 811) (by rw [c] <;> decide) (by rw [c] <;> decide) (by rw [c] <;> decide) (by decide) ?_
        refine zr_aload_n C 1 dL_law_843 rfl rfl ?_
        refine zr_aload_n C 0 dL_law_844 rfl rfl ?_
        refine zr_iload_n C 3 dL_law_845 rfl rfl ?_
        refine zr_iconst C (v := 1) dL_law_846 (by decide) ?_
        refine zr_iadd C dL_law_847 ?_
        refine zr_sld C CL h.1 dL_law_848 ?_
        have h := h.2
        refine zcI (zrunV C (rest := []) (c_X7_back X.2.1 G N _ _ _ h) zk_X7_back zl_L_102 (zRc_6 zo_0) (by decide) (by decide) rfl (Nat.le_of_ble_eq_true rfl) rfl dL_law_849) (fun r86 M87 h => ?_)
        refine zr_aload_n C 2 dL_law_852 rfl rfl ?_
        refine zr_aload_n C 0 dL_law_853 rfl rfl ?_
        refine zr_iload_n C 3 dL_law_854 rfl rfl ?_
        refine zr_iconst C (v := 1) dL_law_855 (by decide) ?_
        refine zr_iadd C dL_law_856 ?_
        refine zr_sld C CL h.1 dL_law_857 ?_
        have h := h.2
        refine zcI (zrunV C (rest := [.int r86]) (c_X8_back X.2.1 G N _ _ _ h) zk_X8_back zl_L_105 (zRc_7 zo_47) (by decide) (by decide) rfl (Nat.le_of_ble_eq_true rfl) rfl dL_law_858) (fun r88 M89 h => ?_)
        refine zr_icmp_eq C 889 dL_law_861 (by decide) (fun c => ?_) (fun c => ?_)
        · have h := h.1 c
          exact w_L_law_b889 C CL N Q R _ _ hk18 _ h
        · have h := h.2 c
          refine zr_iconst C (v := 0) dL_law_864 (by decide) ?_
          exact R _ _ _ _ zb_0.1 h dL_law_865
      | 22, _, c =>
        have c : ((xs x3.toNatClampNeg) &&& (31 : Int32)) = (22 : Int32) := c
        have h := h.2.2.2.2.2.2.2.2.2.2.2.2.2.2.2.2.2.2.2.2.2.2.1 c
        refine zr_tableIn C 866 dL_law_32 (off := 834) (by rw [c] <;> decide) (by rw [c] <;> decide) (by rw [c] <;> decide) (by decide) ?_
        refine zr_aload_n C 1 dL_law_866 rfl rfl ?_
        refine zr_aload_n C 0 dL_law_867 rfl rfl ?_
        refine zr_iload_n C 3 dL_law_868 rfl rfl ?_
        refine zr_iconst C (v := 1) dL_law_869 (by decide) ?_
        refine zr_iadd C dL_law_870 ?_
        refine zr_sld C CL h.1 dL_law_871 ?_
        have h := h.2
        refine zcI (zrunV C (rest := []) (c_X7_count X.2.1 G N _ _ _ h) zk_X7_count zl_L_106 (zRc_6 zo_0) (by decide) (by decide) rfl (Nat.le_of_ble_eq_true rfl) rfl dL_law_872) (fun r90 M91 h => ?_)
        refine zr_aload_n C 2 dL_law_875 rfl rfl ?_
        refine zr_aload_n C 0 dL_law_876 rfl rfl ?_
        refine zr_iload_n C 3 dL_law_877 rfl rfl ?_
        refine zr_iconst C (v := 1) dL_law_878 (by decide) ?_
        refine zr_iadd C dL_law_879 ?_
        refine zr_sld C CL h.1 dL_law_880 ?_
        have h := h.2
        refine zcI (zrunV C (rest := [.int r90]) (c_X8_count X.2.1 G N _ _ _ h) zk_X8_count zl_L_109 (zRc_7 zo_47) (by decide) (by decide) rfl (Nat.le_of_ble_eq_true rfl) rfl dL_law_881) (fun r92 M93 h => ?_)
        refine zr_icmp_eq C 889 dL_law_884 (by decide) (fun c => ?_) (fun c => ?_)
        · have h := h.1 c
          exact w_L_law_b889 C CL N Q R _ _ hk18 _ h
        · have h := h.2 c
          refine zr_iconst C (v := 0) dL_law_887 (by decide) ?_
          exact R _ _ _ _ zb_0.1 h dL_law_888
      | k + 23, cj, _ => exact absurd cj (by omega)
def f_L_law_l18 (N : Nat) (L : Nat) (xs : Nat → Int32)  (Q : Int32 → zMem → Prop) : Nat → Int32 → zMem → Prop
  | 0 => fun _ _ => False
  | n + 1 => fun x3 M => f_L_law_b18 N L xs  (f_L_law_l18 N L xs  Q n)  x3 M Q
theorem w_L_law_l18 {G : zG} {X : zX} (C : zC G X cL_law RL 17 4) {b L : Nat} {xs : Nat → Int32} (CL : zCL G X b L xs) (N : Nat) (Q : Int32 → zMem → Prop) (R : zRZ G X cL_law Q)  : ∀ (n : Nat) (x3 : Int32) (M : zMem), f_L_law_l18 N L xs  Q n x3 M → zV G X M [(0, .ref b), (1, zR G 0), (2, zR G 47), (3, .int x3)] [] 18 := by
  intro n
  induction n with
  | zero => intro x3 M h; exact h.elim
  | succ n ih =>
    intro x3 M h
    exact w_L_law_b18 C CL N Q R   _ ih x3 M h
