def f_X0_at (N : Nat) (a0 : Nat) (x1 : Int32) (x2 : Int32) (x3 : Int32) (M : zMem) (Q : Int32 → zMem → Prop) : Prop :=
  (vp_in (((x1 * (8 : Int32)) + ((2 : Int32) * x2)) + x3) 512 ∧ Q (zrd M (a0 + 2) (((x1 * (8 : Int32)) + ((2 : Int32) * x2)) + x3)) M)
def f_X0_halve (N : Nat) (a0 : Nat) (x1 : Int32) (x2 : Int32) (M : zMem) (Q : zMem → Prop) : Prop :=
  (f_X0_at N a0 x1 (0 : Int32) x2 M (fun (r1 : Int32) (M2 : zMem) =>  (f_X0_at N a0 x1 (1 : Int32) x2 M2 (fun (r3 : Int32) (M4 : zMem) =>  (f_X0_at N a0 x1 (2 : Int32) x2 M4 (fun (r5 : Int32) (M6 : zMem) =>  (f_X0_at N a0 x1 (3 : Int32) x2 M6 (fun (r7 : Int32) (M8 : zMem) =>  (∀ v9 : Int32, v9 = (r1 + r3) / (2 : Int32) →  (∀ v10 : Int32, v10 = (r3 + r5) / (2 : Int32) →  (∀ v11 : Int32, v11 = (r5 + r7) / (2 : Int32) →  (∀ v12 : Int32, v12 = (v9 + v10) / (2 : Int32) →  (∀ v13 : Int32, v13 = (v10 + v11) / (2 : Int32) →  (∀ v14 : Int32, v14 = (v12 + v13) / (2 : Int32) →  (∀ v15 : Int32, v15 = (((2 : Int32) * x1) * (8 : Int32)) + x2 →  (vp_in v15 512 ∧  (∀ M16 : zMem, M16 = zst M8 (a0 + 2) v15 r1 →  (vp_in (v15 + (2 : Int32)) 512 ∧  (∀ M17 : zMem, M17 = zst M16 (a0 + 2) (v15 + (2 : Int32)) v9 →  (vp_in (v15 + (4 : Int32)) 512 ∧  (∀ M18 : zMem, M18 = zst M17 (a0 + 2) (v15 + (4 : Int32)) v12 →  (vp_in (v15 + (6 : Int32)) 512 ∧  (∀ M19 : zMem, M19 = zst M18 (a0 + 2) (v15 + (6 : Int32)) v14 →  (∀ v20 : Int32, v20 = v15 + (8 : Int32) →  (vp_in v20 512 ∧  (∀ M21 : zMem, M21 = zst M19 (a0 + 2) v20 v14 →  (vp_in (v20 + (2 : Int32)) 512 ∧  (∀ M22 : zMem, M22 = zst M21 (a0 + 2) (v20 + (2 : Int32)) v13 →  (vp_in (v20 + (4 : Int32)) 512 ∧  (∀ M23 : zMem, M23 = zst M22 (a0 + 2) (v20 + (4 : Int32)) v11 →  (vp_in (v20 + (6 : Int32)) 512 ∧  (∀ M24 : zMem, M24 = zst M23 (a0 + 2) (v20 + (6 : Int32)) r7 → Q M24))))))))))))))))))))))))))))))))
def f_X4_side (N : Nat) (a0 : Nat) (x1 : Int32) (a2 : Nat) (x3 : Int32) (x4 : Int32) (M : zMem) (Q : Int64 → zMem → Prop) : Prop :=
  (∀ v1 : Int32, v1 = x1 * (8 : Int32) →  (∀ v2 : Int32, v2 = (v1 + (8 : Int32)) - (2 : Int32) →  (∀ v3 : Int32, v3 = (x3 * (8 : Int32)) + ((2 : Int32) * x4) →  (vp_in v1 512 ∧  (∀ v4 : Int32, v4 = zrd M (a0 + 2) v1 →  (vp_in (v1 + (1 : Int32)) 512 ∧  (∀ v5 : Int32, v5 = zrd M (a0 + 2) (v1 + (1 : Int32)) →  (vp_in v2 512 ∧  (∀ v6 : Int64, v6 = ((zrd M (a0 + 2) v2) - v4).toInt64 →  (vp_in (v2 + (1 : Int32)) 512 ∧  (∀ v7 : Int64, v7 = ((zrd M (a0 + 2) (v2 + (1 : Int32))) - v5).toInt64 →  (vp_in (v3 + (1 : Int32)) 512 ∧  (vp_in v3 512 ∧ Q ((v6 * (((zrd M (a2 + 2) (v3 + (1 : Int32))) - v5).toInt64)) - (v7 * (((zrd M (a2 + 2) v3) - v4).toInt64))) M)))))))))))))
def f_X0_measureBand_b16 (N : Nat) (k16 : Int32 → zMem → Prop) (a0 : Nat) (x1 : Int32) (x2 : Int32) (M : zMem) (Q : zMem → Prop) : Prop :=
  (((3 : Int32) ≤ x2 → Q M) ∧ (¬ (3 : Int32) ≤ x2 → (f_X4_side N a0 x1 a0 x1 x2 M (fun (r3 : Int64) (M4 : zMem) =>  (vp_in x1 64 ∧  (vp_in x1 64 ∧  (∀ M5 : zMem, M5 = zstJ M4 (a0 + 4) x1 (if r3 < (zrdJ M4 (a0 + 4) x1) then r3 else (zrdJ M4 (a0 + 4) x1)) →  (vp_in x1 64 ∧  (vp_in x1 64 ∧  (∀ M6 : zMem, M6 = zstJ M5 (a0 + 5) x1 (if r3 < (zrdJ M5 (a0 + 5) x1) then (zrdJ M5 (a0 + 5) x1) else r3) →  (∀ v7 : Int32, v7 = x2 + (1 : Int32) → k16 v7 M6)))))))))))
def f_X0_measureBand_l16 (N : Nat) (a0 : Nat) (x1 : Int32) (Q : zMem → Prop) : Nat → Int32 → zMem → Prop
  | 0 => fun _ _ => False
  | n + 1 => fun x2 M => f_X0_measureBand_b16 N  (f_X0_measureBand_l16 N a0 x1 Q n) a0 x1 x2 M Q
def f_X0_measureBand (N : Nat) (a0 : Nat) (x1 : Int32) (M : zMem) (Q : zMem → Prop) : Prop :=
  (vp_in x1 64 ∧  (∀ M1 : zMem, M1 = zstJ M (a0 + 4) x1 (0 : Int64) →  (vp_in x1 64 ∧  (∀ M2 : zMem, M2 = zstJ M1 (a0 + 5) x1 (0 : Int64) → f_X0_measureBand_l16 N a0 x1 Q N (1 : Int32) M2))))
def f_X0_measureBox_b14 (N : Nat) (k14 : Int32 → Int32 → Int32 → zMem → Prop) (a0 : Nat) (x1 : Int32) (x2 : Int32) (x3 : Int32) (x4 : Int32) (x5 : Int32) (M : zMem) (Q : zMem → Prop) : Prop :=
  (((4 : Int32) ≤ x5 → (vp_in (((4 : Int32) * x1) + ((2 : Int32) * x2)) 256 ∧  (∀ M3 : zMem, M3 = zst M (a0 + 3) (((4 : Int32) * x1) + ((2 : Int32) * x2)) x3 →  (vp_in ((((4 : Int32) * x1) + ((2 : Int32) * x2)) + (1 : Int32)) 256 ∧  (∀ M4 : zMem, M4 = zst M3 (a0 + 3) ((((4 : Int32) * x1) + ((2 : Int32) * x2)) + (1 : Int32)) x4 → Q M4))))) ∧ (¬ (4 : Int32) ≤ x5 → (f_X0_at N a0 x1 x5 x2 M (fun (r5 : Int32) (M6 : zMem) =>  (∀ v7 : Int32, v7 = (if r5 < x3 then r5 else x3) →  (f_X0_at N a0 x1 x5 x2 M6 (fun (r8 : Int32) (M9 : zMem) =>  (∀ v10 : Int32, v10 = (if x4 < r8 then r8 else x4) →  (∀ v11 : Int32, v11 = x5 + (1 : Int32) → k14 v7 v10 v11 M9)))))))))
def f_X0_measureBox_l14 (N : Nat) (a0 : Nat) (x1 : Int32) (x2 : Int32) (Q : zMem → Prop) : Nat → Int32 → Int32 → Int32 → zMem → Prop
  | 0 => fun _ _ _ _ => False
  | n + 1 => fun x3 x4 x5 M => f_X0_measureBox_b14 N  (f_X0_measureBox_l14 N a0 x1 x2 Q n) a0 x1 x2 x3 x4 x5 M Q
def f_X0_measureBox (N : Nat) (a0 : Nat) (x1 : Int32) (x2 : Int32) (M : zMem) (Q : zMem → Prop) : Prop :=
  (f_X0_at N a0 x1 (0 : Int32) x2 M (fun (r1 : Int32) (M2 : zMem) => f_X0_measureBox_l14 N a0 x1 x2 Q N r1 r1 (1 : Int32) M2))
def f_X0_halveAll_b60 (N : Nat) (k60 : Int32 → zMem → Prop) (a0 : Nat) (x1 : Int32) (M : zMem) (Q : zMem → Prop) : Prop :=
  (((63 : Int32) < x1 → Q M) ∧ (¬ (63 : Int32) < x1 → (f_X0_measureBox N a0 x1 (0 : Int32) M (fun (M2 : zMem) =>  (f_X0_measureBox N a0 x1 (1 : Int32) M2 (fun (M4 : zMem) =>  (f_X0_measureBand N a0 x1 M4 (fun (M6 : zMem) =>  (∀ v7 : Int32, v7 = x1 + (1 : Int32) → k60 v7 M6)))))))))
def f_X0_halveAll_l60 (N : Nat) (a0 : Nat) (Q : zMem → Prop) : Nat → Int32 → zMem → Prop
  | 0 => fun _ _ => False
  | n + 1 => fun x1 M => f_X0_halveAll_b60 N  (f_X0_halveAll_l60 N a0 Q n) a0 x1 M Q
def f_X0_halveAll_b34 (N : Nat) (k34 : Int32 → zMem → Prop) (a0 : Nat) (x1 : Int32) (M : zMem) (Q : zMem → Prop) : Prop :=
  (((32 : Int32) ≤ x1 → f_X0_halveAll_l60 N a0 Q N (1 : Int32) M) ∧ (¬ (32 : Int32) ≤ x1 → (f_X0_halve N a0 x1 (0 : Int32) M (fun (M9 : zMem) =>  (f_X0_halve N a0 x1 (1 : Int32) M9 (fun (M11 : zMem) =>  (∀ v12 : Int32, v12 = x1 + (1 : Int32) → k34 v12 M11)))))))
def f_X0_halveAll_l34 (N : Nat) (a0 : Nat) (Q : zMem → Prop) : Nat → Int32 → zMem → Prop
  | 0 => fun _ _ => False
  | n + 1 => fun x1 M => f_X0_halveAll_b34 N  (f_X0_halveAll_l34 N a0 Q n) a0 x1 M Q
def f_X0_halveAll_b2 (N : Nat) (k2 : Int32 → zMem → Prop) (a0 : Nat) (x1 : Int32) (M : zMem) (Q : zMem → Prop) : Prop :=
  (((8 : Int32) ≤ x1 → f_X0_halveAll_l34 N a0 Q N (1 : Int32) M) ∧ (¬ (8 : Int32) ≤ x1 → (vp_in x1 8 ∧  (vp_in ((8 : Int32) + x1) 512 ∧  (∀ M13 : zMem, M13 = zst M (a0 + 2) ((8 : Int32) + x1) ((zrd M (a0 + 1) x1) * (32768 : Int32)) →  (∀ v14 : Int32, v14 = x1 + (1 : Int32) → k2 v14 M13))))))
def f_X0_halveAll_l2 (N : Nat) (a0 : Nat) (Q : zMem → Prop) : Nat → Int32 → zMem → Prop
  | 0 => fun _ _ => False
  | n + 1 => fun x1 M => f_X0_halveAll_b2 N  (f_X0_halveAll_l2 N a0 Q n) a0 x1 M Q
def f_X0_halveAll (N : Nat) (a0 : Nat) (M : zMem) (Q : zMem → Prop) : Prop :=
  f_X0_halveAll_l2 N a0 Q N (0 : Int32) M
def f_X0_takes (N : Nat) (a0 : Nat) (a1 : Nat) (x2 : Int32) (M : zMem) (Q : zMem → Prop) : Prop :=
  (¬ x2 < 0 ∧ ¬ (0 : Int32) < 0 ∧ ¬ (8 : Int32) < 0 ∧ x2.toNatClampNeg + (8 : Int32).toNatClampNeg ≤ (zln a1) ∧ (0 : Int32).toNatClampNeg + (8 : Int32).toNatClampNeg ≤ 8 ∧  (∀ M1 : zMem, M1 = zcp M a1 (a0 + 1) x2.toNatClampNeg (0 : Int32).toNatClampNeg (8 : Int32).toNatClampNeg →  (f_X0_halveAll N a0 M1 (fun (M3 : zMem) => Q M3))))
def f_X7_isCoordinate (N : Nat) (x0 : Int64) (M : zMem) (Q : Int32 → zMem → Prop) : Prop :=
  ((x0 < (-9 : Int64) → Q (0 : Int32) M) ∧ (¬ x0 < (-9 : Int64) → (((9 : Int64) < x0 → Q (0 : Int32) M) ∧ (¬ (9 : Int64) < x0 → Q (1 : Int32) M))))
def f_X0_canShift_b2 (N : Nat) (k2 : Int32 → zMem → Prop) (a0 : Nat) (x1 : Int32) (x2 : Int32) (x3 : Int32) (M : zMem) (Q : Int32 → zMem → Prop) : Prop :=
  (((4 : Int32) ≤ x3 → Q (1 : Int32) M) ∧ (¬ (4 : Int32) ≤ x3 → (vp_in ((2 : Int32) * x3) 8 ∧  (f_X7_isCoordinate N (((zrd M (a0 + 1) ((2 : Int32) * x3)).toInt64) + (x1.toInt64)) M (fun (r1 : Int32) (M2 : zMem) => ((r1 = 0 → Q (0 : Int32) M2) ∧ (¬ r1 = 0 → (vp_in (((2 : Int32) * x3) + (1 : Int32)) 8 ∧  (f_X7_isCoordinate N (((zrd M2 (a0 + 1) (((2 : Int32) * x3) + (1 : Int32))).toInt64) + (x2.toInt64)) M2 (fun (r3 : Int32) (M4 : zMem) => ((¬ r3 = 0 → (∀ v5 : Int32, v5 = x3 + (1 : Int32) → k2 v5 M4)) ∧ (r3 = 0 → Q (0 : Int32) M4))))))))))))
def f_X0_canShift_l2 (N : Nat) (a0 : Nat) (x1 : Int32) (x2 : Int32) (Q : Int32 → zMem → Prop) : Nat → Int32 → zMem → Prop
  | 0 => fun _ _ => False
  | n + 1 => fun x3 M => f_X0_canShift_b2 N  (f_X0_canShift_l2 N a0 x1 x2 Q n) a0 x1 x2 x3 M Q
def f_X0_canShift (N : Nat) (a0 : Nat) (x1 : Int32) (x2 : Int32) (M : zMem) (Q : Int32 → zMem → Prop) : Prop :=
  f_X0_canShift_l2 N a0 x1 x2 Q N (0 : Int32) M
def f_X0_shiftAll_b2 (N : Nat) (k2 : Int32 → zMem → Prop) (a0 : Nat) (x1 : Int32) (x2 : Int32) (x3 : Int32) (M : zMem) (Q : zMem → Prop) : Prop :=
  (((4 : Int32) ≤ x3 → (f_X0_halveAll N a0 M (fun (M2 : zMem) => Q M2))) ∧ (¬ (4 : Int32) ≤ x3 → (vp_in ((2 : Int32) * x3) 8 ∧  (vp_in ((2 : Int32) * x3) 8 ∧  (∀ M3 : zMem, M3 = zst M (a0 + 1) ((2 : Int32) * x3) ((zrd M (a0 + 1) ((2 : Int32) * x3)) + x1) →  (vp_in (((2 : Int32) * x3) + (1 : Int32)) 8 ∧  (vp_in (((2 : Int32) * x3) + (1 : Int32)) 8 ∧  (∀ M4 : zMem, M4 = zst M3 (a0 + 1) (((2 : Int32) * x3) + (1 : Int32)) ((zrd M3 (a0 + 1) (((2 : Int32) * x3) + (1 : Int32))) + x2) →  (∀ v5 : Int32, v5 = x3 + (1 : Int32) → k2 v5 M4)))))))))
def f_X0_shiftAll_l2 (N : Nat) (a0 : Nat) (x1 : Int32) (x2 : Int32) (Q : zMem → Prop) : Nat → Int32 → zMem → Prop
  | 0 => fun _ _ => False
  | n + 1 => fun x3 M => f_X0_shiftAll_b2 N  (f_X0_shiftAll_l2 N a0 x1 x2 Q n) a0 x1 x2 x3 M Q
def f_X0_shiftAll (N : Nat) (a0 : Nat) (x1 : Int32) (x2 : Int32) (M : zMem) (Q : zMem → Prop) : Prop :=
  f_X0_shiftAll_l2 N a0 x1 x2 Q N (0 : Int32) M
def f_X0_swap (N : Nat) (a0 : Nat) (x1 : Int32) (x2 : Int32) (M : zMem) (Q : zMem → Prop) : Prop :=
  (vp_in x1 8 ∧  (∀ v1 : Int32, v1 = zrd M (a0 + 1) x1 →  (vp_in x2 8 ∧  (vp_in x1 8 ∧  (∀ M2 : zMem, M2 = zst M (a0 + 1) x1 (zrd M (a0 + 1) x2) →  (vp_in x2 8 ∧  (∀ M3 : zMem, M3 = zst M2 (a0 + 1) x2 v1 → Q M3)))))))
def f_X0_turnRound_b2 (N : Nat) (k2 : Int32 → zMem → Prop) (a0 : Nat) (x1 : Int32) (M : zMem) (Q : zMem → Prop) : Prop :=
  (((2 : Int32) ≤ x1 → (f_X0_halveAll N a0 M (fun (M2 : zMem) => Q M2))) ∧ (¬ (2 : Int32) ≤ x1 → (f_X0_swap N a0 ((2 : Int32) * x1) ((6 : Int32) - ((2 : Int32) * x1)) M (fun (M4 : zMem) =>  (f_X0_swap N a0 (((2 : Int32) * x1) + (1 : Int32)) ((7 : Int32) - ((2 : Int32) * x1)) M4 (fun (M6 : zMem) =>  (∀ v7 : Int32, v7 = x1 + (1 : Int32) → k2 v7 M6)))))))
def f_X0_turnRound_l2 (N : Nat) (a0 : Nat) (Q : zMem → Prop) : Nat → Int32 → zMem → Prop
  | 0 => fun _ _ => False
  | n + 1 => fun x1 M => f_X0_turnRound_b2 N  (f_X0_turnRound_l2 N a0 Q n) a0 x1 M Q
def f_X0_turnRound (N : Nat) (a0 : Nat) (M : zMem) (Q : zMem → Prop) : Prop :=
  f_X0_turnRound_l2 N a0 Q N (0 : Int32) M
def f_X0_step (N : Nat) (a0 : Nat) (x1 : Int32) (x2 : Int32) (x3 : Int32) (M : zMem) (Q : Int32 → zMem → Prop) : Prop :=
  (∀ v1 : Int32, v1 = ((x1 * (8 : Int32)) + ((2 : Int32) * x2)) + x3 →  (vp_in (v1 + (2 : Int32)) 512 ∧  (vp_in v1 512 ∧ Q ((zrd M (a0 + 2) (v1 + (2 : Int32))) - (zrd M (a0 + 2) v1)) M)))
def f_X0_least (N : Nat) (a0 : Nat) (x1 : Int32) (x2 : Int32) (M : zMem) (Q : Int32 → zMem → Prop) : Prop :=
  (vp_in (((4 : Int32) * x1) + ((2 : Int32) * x2)) 256 ∧ Q (zrd M (a0 + 3) (((4 : Int32) * x1) + ((2 : Int32) * x2))) M)
def f_X0_greatest (N : Nat) (a0 : Nat) (x1 : Int32) (x2 : Int32) (M : zMem) (Q : Int32 → zMem → Prop) : Prop :=
  (vp_in ((((4 : Int32) * x1) + ((2 : Int32) * x2)) + (1 : Int32)) 256 ∧ Q (zrd M (a0 + 3) ((((4 : Int32) * x1) + ((2 : Int32) * x2)) + (1 : Int32))) M)
def f_X0_areaParts_b13 (N : Nat) (k4 : Int32 → Int32 → zMem → Prop) (k13 : Int32 → Int32 → zMem → Prop) (a0 : Nat) (x2 : Int32) (x1 : Int32) (x3 : Int32) (M : zMem) (Q : Int32 → zMem → Prop) : Prop :=
  (((4 : Int32) ≤ x3 → (∀ v2 : Int32, v2 = x2 + (1 : Int32) → k4 x1 v2 M)) ∧ (¬ (4 : Int32) ≤ x3 → (vp_in ((2 : Int32) * x2) 8 ∧  (vp_in (((2 : Int32) * x3) + (1 : Int32)) 8 ∧  (vp_in (((2 : Int32) * x2) + (1 : Int32)) 8 ∧  (vp_in ((2 : Int32) * x3) 8 ∧  (∀ v3 : Int32, v3 = ((zrd M (a0 + 1) ((2 : Int32) * x2)) * (zrd M (a0 + 1) (((2 : Int32) * x3) + (1 : Int32)))) - ((zrd M (a0 + 1) (((2 : Int32) * x2) + (1 : Int32))) * (zrd M (a0 + 1) ((2 : Int32) * x3))) →  (vp_in (((4 : Int32) * x2) + x3) 16 ∧  (∀ v4 : Int32, v4 = x1 + ((zaw (((4 : Int32) * x2) + x3).toNatClampNeg) * v3) →  (∀ v5 : Int32, v5 = x3 + (1 : Int32) → k13 v4 v5 M))))))))))
def f_X0_areaParts_l13 (N : Nat) (k4 : Int32 → Int32 → zMem → Prop) (a0 : Nat) (x2 : Int32) (Q : Int32 → zMem → Prop) : Nat → Int32 → Int32 → zMem → Prop
  | 0 => fun _ _ _ => False
  | n + 1 => fun x1 x3 M => f_X0_areaParts_b13 N k4 (f_X0_areaParts_l13 N k4 a0 x2 Q n) a0 x2 x1 x3 M Q
def f_X0_areaParts_b4 (N : Nat) (k4 : Int32 → Int32 → zMem → Prop) (a0 : Nat) (x1 : Int32) (x2 : Int32) (M : zMem) (Q : Int32 → zMem → Prop) : Prop :=
  (((4 : Int32) ≤ x2 → Q x1 M) ∧ (¬ (4 : Int32) ≤ x2 → (∀ v1 : Int32, v1 = x2 + (1 : Int32) → f_X0_areaParts_l13 N k4 a0 x2 Q N x1 v1 M)))
def f_X0_areaParts_l4 (N : Nat) (a0 : Nat) (Q : Int32 → zMem → Prop) : Nat → Int32 → Int32 → zMem → Prop
  | 0 => fun _ _ _ => False
  | n + 1 => fun x1 x2 M => f_X0_areaParts_b4 N  (f_X0_areaParts_l4 N a0 Q n) a0 x1 x2 M Q
def f_X0_areaParts (N : Nat) (a0 : Nat) (M : zMem) (Q : Int32 → zMem → Prop) : Prop :=
  f_X0_areaParts_l4 N a0 Q N (0 : Int32) (0 : Int32) M
def f_X1_loseOldest (N : Nat)  (M : zMem) (Q : zMem → Prop) : Prop :=
  (∀ M1 : zMem, M1 = zwI M 29 2 (9 : Int32) →  (¬ (1 : Int32) < 0 ∧ ¬ (0 : Int32) < 0 ∧ ¬ (M1.1 29 2) < 0 ∧ (1 : Int32).toNatClampNeg + (M1.1 29 2).toNatClampNeg ≤ 10 ∧ (0 : Int32).toNatClampNeg + (M1.1 29 2).toNatClampNeg ≤ 10 ∧  (∀ M2 : zMem, M2 = zcp M1 30 30 (1 : Int32).toNatClampNeg (0 : Int32).toNatClampNeg (M1.1 29 2).toNatClampNeg →  (¬ (8 : Int32) < 0 ∧ ¬ (0 : Int32) < 0 ∧ ¬ ((M2.1 29 2) * (8 : Int32)) < 0 ∧ (8 : Int32).toNatClampNeg + ((M2.1 29 2) * (8 : Int32)).toNatClampNeg ≤ 80 ∧ (0 : Int32).toNatClampNeg + ((M2.1 29 2) * (8 : Int32)).toNatClampNeg ≤ 80 ∧  (∀ M3 : zMem, M3 = zcp M2 31 31 (8 : Int32).toNatClampNeg (0 : Int32).toNatClampNeg ((M2.1 29 2) * (8 : Int32)).toNatClampNeg → Q M3)))))
def f_X1_adds_b13 (N : Nat) (x1 : Int32) (a2 : Nat) (M : zMem) (Q : zMem → Prop) : Prop :=
  (vp_in (M.1 29 2) 10 ∧  (∀ M1 : zMem, M1 = zst M 30 (M.1 29 2) x1 →  (¬ (0 : Int32) < 0 ∧ ¬ ((M1.1 29 2) * (8 : Int32)) < 0 ∧ ¬ (8 : Int32) < 0 ∧ (0 : Int32).toNatClampNeg + (8 : Int32).toNatClampNeg ≤ (zln a2) ∧ ((M1.1 29 2) * (8 : Int32)).toNatClampNeg + (8 : Int32).toNatClampNeg ≤ 80 ∧  (∀ M2 : zMem, M2 = zcp M1 a2 31 (0 : Int32).toNatClampNeg ((M1.1 29 2) * (8 : Int32)).toNatClampNeg (8 : Int32).toNatClampNeg →  (∀ M3 : zMem, M3 = zwI M2 29 2 ((M2.1 29 2) + (1 : Int32)) → Q M3)))))
def f_X1_adds (N : Nat) (x1 : Int32) (a2 : Nat) (M : zMem) (Q : zMem → Prop) : Prop :=
  (((M.1 29 2) < (10 : Int32) → f_X1_adds_b13 N x1 a2 M Q) ∧ (¬ (M.1 29 2) < (10 : Int32) → (f_X1_loseOldest N  M (fun (M5 : zMem) => f_X1_adds_b13 N x1 a2 M5 Q))))
def f_X2_place (N : Nat) (x0 : Int32) (x1 : Int32) (M : zMem) (Q : Int32 → zMem → Prop) : Prop :=
  Q (((x0 * (4 : Int32)) + x1) * (8 : Int32)) M
def f_X2_drop_b2 (N : Nat) (k2 : Int32 → zMem → Prop) (x1 : Int32) (M : zMem) (Q : zMem → Prop) : Prop :=
  (((2 : Int32) ≤ x1 → Q M) ∧ (¬ (2 : Int32) ≤ x1 → (vp_in x1 2 ∧  (∀ M1 : zMem, M1 = zst M 33 x1 (vp_nar .boolean (0 : Int32)) →  (∀ v2 : Int32, v2 = x1 + (1 : Int32) → k2 v2 M1)))))
def f_X2_drop_l2 (N : Nat)  (Q : zMem → Prop) : Nat → Int32 → zMem → Prop
  | 0 => fun _ _ => False
  | n + 1 => fun x1 M => f_X2_drop_b2 N  (f_X2_drop_l2 N  Q n)  x1 M Q
def f_X2_drop (N : Nat)  (M : zMem) (Q : zMem → Prop) : Prop :=
  f_X2_drop_l2 N  Q N (0 : Int32) M
def f_X3_outdate_b12 (N : Nat) (k12 : Int32 → zMem → Prop) (x1 : Int32) (M : zMem) (Q : zMem → Prop) : Prop :=
  (((16 : Int32) ≤ x1 → Q M) ∧ (¬ (16 : Int32) ≤ x1 → (vp_in x1 16 ∧  (∀ M3 : zMem, M3 = zst M 46 x1 (-1 : Int32) →  (∀ v4 : Int32, v4 = x1 + (1 : Int32) → k12 v4 M3)))))
def f_X3_outdate_l12 (N : Nat)  (Q : zMem → Prop) : Nat → Int32 → zMem → Prop
  | 0 => fun _ _ => False
  | n + 1 => fun x1 M => f_X3_outdate_b12 N  (f_X3_outdate_l12 N  Q n)  x1 M Q
def f_X3_outdate (N : Nat)  (M : zMem) (Q : zMem → Prop) : Prop :=
  (∀ M1 : zMem, M1 = zwI M 38 10 (-1 : Int32) →  (∀ M2 : zMem, M2 = zwI M1 38 11 (-1 : Int32) → f_X3_outdate_l12 N  Q N (0 : Int32) M2))
def f_X3_isOver (N : Nat)  (M : zMem) (Q : Int32 → zMem → Prop) : Prop :=
  (((M.1 38 5) ≤ (100 : Int32) → Q (0 : Int32) M) ∧ (¬ (M.1 38 5) ≤ (100 : Int32) → Q (1 : Int32) M))
def f_X3_tellSpot (N : Nat) (x1 : Int32) (x2 : Int32) (M : zMem) (Q : Int32 → zMem → Prop) : Prop :=
  (vp_in ((x1 * (6 : Int32)) + x2) 600 ∧ Q (zrd M 44 ((x1 * (6 : Int32)) + x2)) M)
def f_X3_hangTogether (N : Nat) (x1 : Int32) (x2 : Int32) (M : zMem) (Q : Int32 → zMem → Prop) : Prop :=
  (vp_in x1 101 ∧ ((¬ (zrd M 41 x1) = 0 → Q (0 : Int32) M) ∧ ((zrd M 41 x1) = 0 → (vp_in x2 101 ∧ ((¬ (zrd M 41 x2) = 0 → Q (0 : Int32) M) ∧ ((zrd M 41 x2) = 0 → (vp_in x1 101 ∧  (vp_in x2 101 ∧ (((1 : Int32) < (if 0 ≤ ((zrd M 39 x1) - (zrd M 39 x2)) then ((zrd M 39 x1) - (zrd M 39 x2)) else 0 - ((zrd M 39 x1) - (zrd M 39 x2))) → Q (0 : Int32) M) ∧ (¬ (1 : Int32) < (if 0 ≤ ((zrd M 39 x1) - (zrd M 39 x2)) then ((zrd M 39 x1) - (zrd M 39 x2)) else 0 - ((zrd M 39 x1) - (zrd M 39 x2))) → (vp_in x1 101 ∧  (vp_in x2 101 ∧ (((1 : Int32) < (if 0 ≤ ((zrd M 40 x1) - (zrd M 40 x2)) then ((zrd M 40 x1) - (zrd M 40 x2)) else 0 - ((zrd M 40 x1) - (zrd M 40 x2))) → Q (0 : Int32) M) ∧ (¬ (1 : Int32) < (if 0 ≤ ((zrd M 40 x1) - (zrd M 40 x2)) then ((zrd M 40 x1) - (zrd M 40 x2)) else 0 - ((zrd M 40 x1) - (zrd M 40 x2))) → Q (1 : Int32) M))))))))))))))
def f_X3_gather_b105 (N : Nat) (k21 : Int32 → Int32 → zMem → Prop) (k48 : Int32 → Int32 → zMem → Prop) (x1 : Int32) (x2 : Int32) (x3 : Int32) (x4 : Int32) (M : zMem) (Q : Int32 → zMem → Prop) : Prop :=
  (∀ v5 : Int32, v5 = x4 + (1 : Int32) → k48 x2 v5 M)
def f_X3_gather_b48 (N : Nat) (k21 : Int32 → Int32 → zMem → Prop) (k48 : Int32 → Int32 → zMem → Prop) (x1 : Int32) (x3 : Int32) (x2 : Int32) (x4 : Int32) (M : zMem) (Q : Int32 → zMem → Prop) : Prop :=
  (((M.1 38 5) ≤ x4 → (∀ v4 : Int32, v4 = x3 + (1 : Int32) → k21 x2 v4 M)) ∧ (¬ (M.1 38 5) ≤ x4 → (vp_in x4 101 ∧ ((¬ (zrd M 43 x4) = (-1 : Int32) → f_X3_gather_b105 N k21 k48 x1 x2 x3 x4 M Q) ∧ ((zrd M 43 x4) = (-1 : Int32) → (vp_in x3 100 ∧  (f_X3_hangTogether N (zrd M 45 x3) x4 M (fun (r6 : Int32) (M7 : zMem) => ((r6 = 0 → f_X3_gather_b105 N k21 k48 x1 x2 x3 x4 M7 Q) ∧ (¬ r6 = 0 → (vp_in x4 101 ∧  (∀ M8 : zMem, M8 = zst M7 43 x4 (M7.1 38 7) →  (vp_in x2 100 ∧  (∀ M9 : zMem, M9 = zst M8 45 x2 x4 →  (∀ v10 : Int32, v10 = x2 + (1 : Int32) → f_X3_gather_b105 N k21 k48 x1 v10 x3 x4 M9 Q)))))))))))))))
def f_X3_gather_l48 (N : Nat) (k21 : Int32 → Int32 → zMem → Prop) (x1 : Int32) (x3 : Int32) (Q : Int32 → zMem → Prop) : Nat → Int32 → Int32 → zMem → Prop
  | 0 => fun _ _ _ => False
  | n + 1 => fun x2 x4 M => f_X3_gather_b48 N k21 (f_X3_gather_l48 N k21 x1 x3 Q n) x1 x3 x2 x4 M Q
def f_X3_gather_b21 (N : Nat) (k21 : Int32 → Int32 → zMem → Prop) (x1 : Int32) (x2 : Int32) (x3 : Int32) (M : zMem) (Q : Int32 → zMem → Prop) : Prop :=
  (((M.1 38 5) ≤ x3 → Q x2 M) ∧ (¬ (M.1 38 5) ≤ x3 → ((x2 ≤ x3 → Q x2 M) ∧ (¬ x2 ≤ x3 → (vp_in x1 101 ∧ ((¬ (zrd M 41 x1) = 0 → Q x2 M) ∧ ((zrd M 41 x1) = 0 → (∀ v3 : Int32, v3 = x1 + (1 : Int32) → f_X3_gather_l48 N k21 x1 x3 Q N x2 v3 M))))))))
def f_X3_gather_l21 (N : Nat) (x1 : Int32) (Q : Int32 → zMem → Prop) : Nat → Int32 → Int32 → zMem → Prop
  | 0 => fun _ _ _ => False
  | n + 1 => fun x2 x3 M => f_X3_gather_b21 N  (f_X3_gather_l21 N x1 Q n) x1 x2 x3 M Q
def f_X3_gather (N : Nat) (x1 : Int32) (M : zMem) (Q : Int32 → zMem → Prop) : Prop :=
  (vp_in x1 101 ∧  (∀ M1 : zMem, M1 = zst M 43 x1 (M.1 38 7) →  (vp_in (0 : Int32) 100 ∧  (∀ M2 : zMem, M2 = zst M1 45 (0 : Int32) x1 → f_X3_gather_l21 N x1 Q N (1 : Int32) (0 : Int32) M2))))
def f_X3_kind_b72 (N : Nat) (k36 : Int32 → Int32 → zMem → Prop) (x1 : Int32) (x2 : Int32) (x4 : Int32) (s0 : Int32) (M : zMem) (Q : Int32 → zMem → Prop) : Prop :=
  (∀ v2 : Int32, v2 = x4 + (1 : Int32) → k36 s0 v2 M)
def f_X3_kind_b71 (N : Nat) (k36 : Int32 → Int32 → zMem → Prop) (x1 : Int32) (x2 : Int32) (x4 : Int32) (M : zMem) (Q : Int32 → zMem → Prop) : Prop :=
  f_X3_kind_b72 N k36 x1 x2 x4 (0 : Int32) M Q
def f_X3_kind_b36 (N : Nat) (k36 : Int32 → Int32 → zMem → Prop) (x1 : Int32) (x2 : Int32) (x3 : Int32) (x4 : Int32) (M : zMem) (Q : Int32 → zMem → Prop) : Prop :=
  ((x1 ≤ x4 → ((x3 = 0 → (((12 : Int32) ≤ x1 → Q (3 : Int32) M) ∧ (¬ (12 : Int32) ≤ x1 → Q (2 : Int32) M))) ∧ (¬ x3 = 0 → Q (1 : Int32) M))) ∧ (¬ x1 ≤ x4 → ((x3 = 0 → f_X3_kind_b71 N k36 x1 x2 x4 M Q) ∧ (¬ x3 = 0 → (vp_in x4 100 ∧  (vp_in (zrd M 45 x4) 101 ∧  (vp_in x2 101 ∧ ((¬ (zrd M 42 (zrd M 45 x4)) = (zrd M 42 x2) → f_X3_kind_b71 N k36 x1 x2 x4 M Q) ∧ ((zrd M 42 (zrd M 45 x4)) = (zrd M 42 x2) → f_X3_kind_b72 N k36 x1 x2 x4 (1 : Int32) M Q)))))))))
def f_X3_kind_l36 (N : Nat) (x1 : Int32) (x2 : Int32) (Q : Int32 → zMem → Prop) : Nat → Int32 → Int32 → zMem → Prop
  | 0 => fun _ _ _ => False
  | n + 1 => fun x3 x4 M => f_X3_kind_b36 N  (f_X3_kind_l36 N x1 x2 Q n) x1 x2 x3 x4 M Q
def f_X3_kind_b32 (N : Nat) (x1 : Int32) (x2 : Int32) (s0 : Int32) (M : zMem) (Q : Int32 → zMem → Prop) : Prop :=
  f_X3_kind_l36 N x1 x2 Q N s0 (1 : Int32) M
def f_X3_kind (N : Nat) (x1 : Int32) (M : zMem) (Q : Int32 → zMem → Prop) : Prop :=
  (vp_in (0 : Int32) 100 ∧  (∀ v1 : Int32, v1 = zrd M 45 (0 : Int32) →  (vp_in v1 101 ∧ (((zrd M 41 v1) = 0 → (vp_in v1 101 ∧ (((zrd M 42 v1) = 0 → f_X3_kind_b32 N x1 v1 (0 : Int32) M Q) ∧ (¬ (zrd M 42 v1) = 0 → f_X3_kind_b32 N x1 v1 (1 : Int32) M Q)))) ∧ (¬ (zrd M 41 v1) = 0 → Q (0 : Int32) M)))))
def f_X3_width_b4 (N : Nat) (k4 : Int32 → Int32 → zMem → Prop) (x0 : Int32) (x1 : Int32) (x2 : Int32) (M : zMem) (Q : Int32 → zMem → Prop) : Prop :=
  (((5 : Int32) ≤ x2 → Q x1 M) ∧ (¬ (5 : Int32) ≤ x2 → (((32 : Int32) ≤ (x0 * x1) → Q x1 M) ∧ (¬ (32 : Int32) ≤ (x0 * x1) → (∀ v1 : Int32, v1 = x1 * (2 : Int32) →  (∀ v2 : Int32, v2 = x2 + (1 : Int32) → k4 v1 v2 M))))))
def f_X3_width_l4 (N : Nat) (x0 : Int32) (Q : Int32 → zMem → Prop) : Nat → Int32 → Int32 → zMem → Prop
  | 0 => fun _ _ _ => False
  | n + 1 => fun x1 x2 M => f_X3_width_b4 N  (f_X3_width_l4 N x0 Q n) x0 x1 x2 M Q
def f_X3_width (N : Nat) (x0 : Int32) (M : zMem) (Q : Int32 → zMem → Prop) : Prop :=
  f_X3_width_l4 N x0 Q N (1 : Int32) (0 : Int32) M
def f_X3_tellStretch_b10 (N : Nat) (k10 : Int32 → Int32 → Int32 → zMem → Prop) (x1 : Int32) (a2 : Nat) (x3 : Int32) (x4 : Int32) (x5 : Int32) (x6 : Int32) (M : zMem) (Q : zMem → Prop) : Prop :=
  ((x3 ≤ x6 → (vp_in x1 600 ∧  (∀ M1 : zMem, M1 = zst M 44 x1 x4 →  (vp_in (x1 + (1 : Int32)) 600 ∧  (∀ M2 : zMem, M2 = zst M1 44 (x1 + (1 : Int32)) x5 → Q M2))))) ∧ (¬ x3 ≤ x6 → (vp_in x6 100 ∧  (vp_in (zrd M 45 x6) (zln a2) ∧  (∀ v3 : Int32, v3 = zrd M a2 (zrd M 45 x6) →  (f_X3_width N v3 M (fun (r4 : Int32) (M5 : zMem) =>  (∀ v6 : Int32, v6 = (v3 * r4) - (32 : Int32) →  (∀ v7 : Int32, v7 = (if v6 < x4 then v6 else x4) →  (∀ v8 : Int32, v8 = (if x5 < (v6 + r4) then (v6 + r4) else x5) →  (∀ v9 : Int32, v9 = x6 + (1 : Int32) → k10 v7 v8 v9 M5)))))))))))
def f_X3_tellStretch_l10 (N : Nat) (x1 : Int32) (a2 : Nat) (x3 : Int32) (Q : zMem → Prop) : Nat → Int32 → Int32 → Int32 → zMem → Prop
  | 0 => fun _ _ _ _ => False
  | n + 1 => fun x4 x5 x6 M => f_X3_tellStretch_b10 N  (f_X3_tellStretch_l10 N x1 a2 x3 Q n) x1 a2 x3 x4 x5 x6 M Q
def f_X3_tellStretch (N : Nat) (x1 : Int32) (a2 : Nat) (x3 : Int32) (M : zMem) (Q : zMem → Prop) : Prop :=
  f_X3_tellStretch_l10 N x1 a2 x3 Q N (32 : Int32) (0 : Int32) (0 : Int32) M
def f_X3_tell (N : Nat) (x1 : Int32) (M : zMem) (Q : zMem → Prop) : Prop :=
  (∀ v1 : Int32, v1 = (M.1 38 7) * (6 : Int32) →  (f_X3_kind N x1 M (fun (r2 : Int32) (M3 : zMem) =>  (vp_in v1 600 ∧  (∀ M4 : zMem, M4 = zst M3 44 v1 r2 →  (vp_in (v1 + (1 : Int32)) 600 ∧  (∀ M5 : zMem, M5 = zst M4 44 (v1 + (1 : Int32)) x1 →  (f_X3_tellStretch N (v1 + (2 : Int32)) 39 x1 M5 (fun (M7 : zMem) =>  (f_X3_tellStretch N (v1 + (4 : Int32)) 40 x1 M7 (fun (M9 : zMem) => Q M9)))))))))))
def f_X3_gatherSpots_b39 (N : Nat) (k2 : Int32 → zMem → Prop) (x1 : Int32) (M : zMem) (Q : zMem → Prop) : Prop :=
  (∀ v1 : Int32, v1 = x1 + (1 : Int32) → k2 v1 M)
def f_X3_gatherSpots_b2 (N : Nat) (k2 : Int32 → zMem → Prop) (x1 : Int32) (M : zMem) (Q : zMem → Prop) : Prop :=
  (((M.1 38 5) ≤ x1 → Q M) ∧ (¬ (M.1 38 5) ≤ x1 → (vp_in x1 101 ∧ ((¬ (zrd M 43 x1) = (-1 : Int32) → f_X3_gatherSpots_b39 N k2 x1 M Q) ∧ ((zrd M 43 x1) = (-1 : Int32) → (f_X3_gather N x1 M (fun (r2 : Int32) (M3 : zMem) =>  (f_X3_tell N r2 M3 (fun (M5 : zMem) =>  (∀ M6 : zMem, M6 = zwI M5 38 7 ((M5.1 38 7) + (1 : Int32)) → f_X3_gatherSpots_b39 N k2 x1 M6 Q))))))))))
def f_X3_gatherSpots_l2 (N : Nat)  (Q : zMem → Prop) : Nat → Int32 → zMem → Prop
  | 0 => fun _ _ => False
  | n + 1 => fun x1 M => f_X3_gatherSpots_b2 N  (f_X3_gatherSpots_l2 N  Q n)  x1 M Q
def f_X3_gatherSpots (N : Nat)  (M : zMem) (Q : zMem → Prop) : Prop :=
  f_X3_gatherSpots_l2 N  Q N (0 : Int32) M
def f_X3_adds (N : Nat) (x1 : Int32) (x2 : Int32) (x3 : Int32) (x4 : Int32) (M : zMem) (Q : zMem → Prop) : Prop :=
  (f_X3_isOver N  M (fun (r1 : Int32) (M2 : zMem) => ((r1 = 0 → (vp_in (M2.1 38 5) 101 ∧  (∀ M3 : zMem, M3 = zst M2 39 (M2.1 38 5) x1 →  (vp_in (M3.1 38 5) 101 ∧  (∀ M4 : zMem, M4 = zst M3 40 (M3.1 38 5) x2 →  (vp_in (M4.1 38 5) 101 ∧  (∀ M5 : zMem, M5 = zst M4 42 (M4.1 38 5) x3 →  (vp_in (M5.1 38 5) 101 ∧  (∀ M6 : zMem, M6 = zst M5 41 (M5.1 38 5) (vp_nar .boolean x4) →  (vp_in (M6.1 38 5) 101 ∧  (∀ M7 : zMem, M7 = zst M6 43 (M6.1 38 5) (-1 : Int32) →  (∀ M8 : zMem, M8 = zwI M7 38 5 ((M7.1 38 5) + (1 : Int32)) → ((x4 = 0 → Q M8) ∧ (¬ x4 = 0 → (∀ M9 : zMem, M9 = zwI M8 38 6 ((M8.1 38 6) + (1 : Int32)) → Q M9))))))))))))))) ∧ (¬ r1 = 0 → Q M2))))
def f_X4_placeByBand (N : Nat) (a0 : Nat) (x1 : Int32) (x2 : Int64) (M : zMem) (Q : Int32 → zMem → Prop) : Prop :=
  (vp_in x1 64 ∧ ((x2 ≤ (zrdJ M (a0 + 5) x1) → (vp_in x1 64 ∧ (((zrdJ M (a0 + 4) x1) ≤ x2 → Q (0 : Int32) M) ∧ (¬ (zrdJ M (a0 + 4) x1) ≤ x2 → Q (-1 : Int32) M)))) ∧ (¬ x2 ≤ (zrdJ M (a0 + 5) x1) → Q (1 : Int32) M)))
def f_X4_endsBeside (N : Nat) (a0 : Nat) (x1 : Int32) (a2 : Nat) (x3 : Int32) (M : zMem) (Q : Int32 → zMem → Prop) : Prop :=
  (f_X4_side N a0 x1 a2 x3 (0 : Int32) M (fun (r1 : Int64) (M2 : zMem) =>  (f_X4_placeByBand N a0 x1 r1 M2 (fun (r3 : Int32) (M4 : zMem) =>  (f_X4_side N a0 x1 a2 x3 (3 : Int32) M4 (fun (r5 : Int64) (M6 : zMem) =>  (f_X4_placeByBand N a0 x1 r5 M6 (fun (r7 : Int32) (M8 : zMem) => ((0 ≤ (r3 * r7) → Q (0 : Int32) M8) ∧ (¬ 0 ≤ (r3 * r7) → Q (1 : Int32) M8))))))))))
def f_X4_endsCross (N : Nat) (a0 : Nat) (x1 : Int32) (a2 : Nat) (x3 : Int32) (M : zMem) (Q : Int32 → zMem → Prop) : Prop :=
  (f_X4_endsBeside N a0 x1 a2 x3 M (fun (r1 : Int32) (M2 : zMem) => ((r1 = 0 → Q (0 : Int32) M2) ∧ (¬ r1 = 0 → (f_X4_endsBeside N a2 x3 a0 x1 M2 (fun (r3 : Int32) (M4 : zMem) => ((r3 = 0 → Q (0 : Int32) M4) ∧ (¬ r3 = 0 → Q (1 : Int32) M4))))))))
def f_X4_crossOfSteps (N : Nat) (a0 : Nat) (x1 : Int32) (x2 : Int32) (a3 : Nat) (x4 : Int32) (x5 : Int32) (M : zMem) (Q : Int64 → zMem → Prop) : Prop :=
  (f_X0_step N a0 x1 x2 (0 : Int32) M (fun (r1 : Int32) (M2 : zMem) =>  (f_X0_step N a3 x4 x5 (1 : Int32) M2 (fun (r3 : Int32) (M4 : zMem) =>  (f_X0_step N a0 x1 x2 (1 : Int32) M4 (fun (r5 : Int32) (M6 : zMem) =>  (f_X0_step N a3 x4 x5 (0 : Int32) M6 (fun (r7 : Int32) (M8 : zMem) => Q (((r1.toInt64) * (r3.toInt64)) - ((r5.toInt64) * (r7.toInt64))) M8))))))))
def f_X4_sign (N : Nat) (x0 : Int64) (M : zMem) (Q : Int32 → zMem → Prop) : Prop :=
  ((x0 ≤ (0 : Int64) → (((0 : Int64) ≤ x0 → Q (0 : Int32) M) ∧ (¬ (0 : Int64) ≤ x0 → Q (-1 : Int32) M))) ∧ (¬ x0 ≤ (0 : Int64) → Q (1 : Int32) M))
def f_X4_wayOfTurn_b31 (N : Nat) (k17 : Int32 → zMem → Prop) (k31 : Int32 → zMem → Prop) (a0 : Nat) (x1 : Int32) (a2 : Nat) (x3 : Int32) (x4 : Int32) (x5 : Int32) (x6 : Int32) (M : zMem) (Q : Int32 → zMem → Prop) : Prop :=
  (((3 : Int32) ≤ x6 → (∀ v5 : Int32, v5 = x5 + (1 : Int32) → k17 v5 M)) ∧ (¬ (3 : Int32) ≤ x6 → (f_X4_crossOfSteps N a0 x1 x5 a2 x3 x6 M (fun (r6 : Int64) (M7 : zMem) =>  (f_X4_sign N r6 M7 (fun (r8 : Int32) (M9 : zMem) => ((r8 = x4 → (∀ v10 : Int32, v10 = x6 + (1 : Int32) → k31 v10 M9)) ∧ (¬ r8 = x4 → Q (0 : Int32) M9))))))))
def f_X4_wayOfTurn_l31 (N : Nat) (k17 : Int32 → zMem → Prop) (a0 : Nat) (x1 : Int32) (a2 : Nat) (x3 : Int32) (x4 : Int32) (x5 : Int32) (Q : Int32 → zMem → Prop) : Nat → Int32 → zMem → Prop
  | 0 => fun _ _ => False
  | n + 1 => fun x6 M => f_X4_wayOfTurn_b31 N k17 (f_X4_wayOfTurn_l31 N k17 a0 x1 a2 x3 x4 x5 Q n) a0 x1 a2 x3 x4 x5 x6 M Q
def f_X4_wayOfTurn_b17 (N : Nat) (k17 : Int32 → zMem → Prop) (a0 : Nat) (x1 : Int32) (a2 : Nat) (x3 : Int32) (x4 : Int32) (x5 : Int32) (M : zMem) (Q : Int32 → zMem → Prop) : Prop :=
  (((3 : Int32) ≤ x5 → Q x4 M) ∧ (¬ (3 : Int32) ≤ x5 → ((x4 = 0 → Q x4 M) ∧ (¬ x4 = 0 → f_X4_wayOfTurn_l31 N k17 a0 x1 a2 x3 x4 x5 Q N (0 : Int32) M))))
def f_X4_wayOfTurn_l17 (N : Nat) (a0 : Nat) (x1 : Int32) (a2 : Nat) (x3 : Int32) (x4 : Int32) (Q : Int32 → zMem → Prop) : Nat → Int32 → zMem → Prop
  | 0 => fun _ _ => False
  | n + 1 => fun x5 M => f_X4_wayOfTurn_b17 N  (f_X4_wayOfTurn_l17 N a0 x1 a2 x3 x4 Q n) a0 x1 a2 x3 x4 x5 M Q
def f_X4_wayOfTurn (N : Nat) (a0 : Nat) (x1 : Int32) (a2 : Nat) (x3 : Int32) (M : zMem) (Q : Int32 → zMem → Prop) : Prop :=
  (f_X4_crossOfSteps N a0 x1 (0 : Int32) a2 x3 (0 : Int32) M (fun (r1 : Int64) (M2 : zMem) =>  (f_X4_sign N r1 M2 (fun (r3 : Int32) (M4 : zMem) => f_X4_wayOfTurn_l17 N a0 x1 a2 x3 r3 Q N (0 : Int32) M4))))
def f_X4_boxesApart (N : Nat) (a0 : Nat) (x1 : Int32) (a2 : Nat) (x3 : Int32) (x4 : Int32) (M : zMem) (Q : Int32 → zMem → Prop) : Prop :=
  (f_X0_greatest N a0 x1 x4 M (fun (r1 : Int32) (M2 : zMem) =>  (f_X0_least N a2 x3 x4 M2 (fun (r3 : Int32) (M4 : zMem) => ((r1 < r3 → Q (1 : Int32) M4) ∧ (¬ r1 < r3 → (f_X0_greatest N a2 x3 x4 M4 (fun (r5 : Int32) (M6 : zMem) =>  (f_X0_least N a0 x1 x4 M6 (fun (r7 : Int32) (M8 : zMem) => ((r7 ≤ r5 → Q (0 : Int32) M8) ∧ (¬ r7 ≤ r5 → Q (1 : Int32) M8))))))))))))
def f_X4_clears_b56 (N : Nat) (x4 : Int32) (M : zMem) (Q : Int32 → zMem → Prop) : Prop :=
  ((x4 = 0 → Q (0 : Int32) M) ∧ (¬ x4 = 0 → Q (1 : Int32) M))
def f_X4_clears_b18 (N : Nat) (k18 : Int32 → zMem → Prop) (a0 : Nat) (x1 : Int32) (a2 : Nat) (x3 : Int32) (x4 : Int32) (x5 : Int32) (M : zMem) (Q : Int32 → zMem → Prop) : Prop :=
  (((4 : Int32) ≤ x5 → f_X4_clears_b56 N x4 M Q) ∧ (¬ (4 : Int32) ≤ x5 → ((x4 = 0 → f_X4_clears_b56 N x4 M Q) ∧ (¬ x4 = 0 → (f_X4_side N a0 x1 a2 x3 x5 M (fun (r5 : Int64) (M6 : zMem) =>  (f_X4_placeByBand N a0 x1 r5 M6 (fun (r7 : Int32) (M8 : zMem) => ((r7 = x4 → (∀ v9 : Int32, v9 = x5 + (1 : Int32) → k18 v9 M8)) ∧ (¬ r7 = x4 → Q (0 : Int32) M8))))))))))
def f_X4_clears_l18 (N : Nat) (a0 : Nat) (x1 : Int32) (a2 : Nat) (x3 : Int32) (x4 : Int32) (Q : Int32 → zMem → Prop) : Nat → Int32 → zMem → Prop
  | 0 => fun _ _ => False
  | n + 1 => fun x5 M => f_X4_clears_b18 N  (f_X4_clears_l18 N a0 x1 a2 x3 x4 Q n) a0 x1 a2 x3 x4 x5 M Q
def f_X4_clears (N : Nat) (a0 : Nat) (x1 : Int32) (a2 : Nat) (x3 : Int32) (M : zMem) (Q : Int32 → zMem → Prop) : Prop :=
  (f_X4_side N a0 x1 a2 x3 (0 : Int32) M (fun (r1 : Int64) (M2 : zMem) =>  (f_X4_placeByBand N a0 x1 r1 M2 (fun (r3 : Int32) (M4 : zMem) => f_X4_clears_l18 N a0 x1 a2 x3 r3 Q N (1 : Int32) M4))))
def f_X4_whyApart (N : Nat) (a0 : Nat) (x1 : Int32) (a2 : Nat) (x3 : Int32) (M : zMem) (Q : Int32 → zMem → Prop) : Prop :=
  (f_X4_boxesApart N a0 x1 a2 x3 (0 : Int32) M (fun (r1 : Int32) (M2 : zMem) => ((¬ r1 = 0 → Q (1 : Int32) M2) ∧ (r1 = 0 → (f_X4_boxesApart N a0 x1 a2 x3 (1 : Int32) M2 (fun (r3 : Int32) (M4 : zMem) => ((r3 = 0 → (f_X4_clears N a0 x1 a2 x3 M4 (fun (r5 : Int32) (M6 : zMem) => ((r5 = 0 → (f_X4_clears N a2 x3 a0 x1 M6 (fun (r7 : Int32) (M8 : zMem) => ((r7 = 0 → Q (0 : Int32) M8) ∧ (¬ r7 = 0 → Q (3 : Int32) M8))))) ∧ (¬ r5 = 0 → Q (2 : Int32) M6))))) ∧ (¬ r3 = 0 → Q (1 : Int32) M4))))))))
def f_X3_search_b63 (N : Nat) (rec : Nat → Int32 → Nat → Int32 → Int32 → zMem → (zMem → Prop) → Prop) (x2 : Int32) (x4 : Int32) (x6 : Int32) (x7 : Int32) (M : zMem) (Q : zMem → Prop) : Prop :=
  (f_X3_adds N x2 x4 x6 x7 M (fun (M8 : zMem) => Q M8))
def f_X3_search_b87 (N : Nat) (rec : Nat → Int32 → Nat → Int32 → Int32 → zMem → (zMem → Prop) → Prop) (k78 : Int32 → zMem → Prop) (k87 : Int32 → zMem → Prop) (a1 : Nat) (x2 : Int32) (a3 : Nat) (x4 : Int32) (x5 : Int32) (x8 : Int32) (x9 : Int32) (M : zMem) (Q : zMem → Prop) : Prop :=
  (((2 : Int32) ≤ x9 → (∀ v9 : Int32, v9 = x8 + (1 : Int32) → k78 v9 M)) ∧ (¬ (2 : Int32) ≤ x9 → (rec a1 (((2 : Int32) * x2) + x8) a3 (((2 : Int32) * x4) + x9) (x5 + (1 : Int32)) M (fun (M11 : zMem) =>  (∀ v12 : Int32, v12 = x9 + (1 : Int32) → k87 v12 M11)))))
def f_X3_search_l87 (N : Nat) (rec : Nat → Int32 → Nat → Int32 → Int32 → zMem → (zMem → Prop) → Prop) (k78 : Int32 → zMem → Prop) (a1 : Nat) (x2 : Int32) (a3 : Nat) (x4 : Int32) (x5 : Int32) (x8 : Int32) (Q : zMem → Prop) : Nat → Int32 → zMem → Prop
  | 0 => fun _ _ => False
  | n + 1 => fun x9 M => f_X3_search_b87 N rec k78 (f_X3_search_l87 N rec k78 a1 x2 a3 x4 x5 x8 Q n) a1 x2 a3 x4 x5 x8 x9 M Q
def f_X3_search_b78 (N : Nat) (rec : Nat → Int32 → Nat → Int32 → Int32 → zMem → (zMem → Prop) → Prop) (k78 : Int32 → zMem → Prop) (a1 : Nat) (x2 : Int32) (a3 : Nat) (x4 : Int32) (x5 : Int32) (x8 : Int32) (M : zMem) (Q : zMem → Prop) : Prop :=
  (((2 : Int32) ≤ x8 → Q M) ∧ (¬ (2 : Int32) ≤ x8 → f_X3_search_l87 N rec k78 a1 x2 a3 x4 x5 x8 Q N (0 : Int32) M))
def f_X3_search_l78 (N : Nat) (rec : Nat → Int32 → Nat → Int32 → Int32 → zMem → (zMem → Prop) → Prop) (a1 : Nat) (x2 : Int32) (a3 : Nat) (x4 : Int32) (x5 : Int32) (Q : zMem → Prop) : Nat → Int32 → zMem → Prop
  | 0 => fun _ _ => False
  | n + 1 => fun x8 M => f_X3_search_b78 N rec (f_X3_search_l78 N rec a1 x2 a3 x4 x5 Q n) a1 x2 a3 x4 x5 x8 M Q
def f_X3_search_b50 (N : Nat) (rec : Nat → Int32 → Nat → Int32 → Int32 → zMem → (zMem → Prop) → Prop) (a1 : Nat) (x2 : Int32) (a3 : Nat) (x4 : Int32) (x5 : Int32) (x6 : Int32) (s0 : Int32) (M : zMem) (Q : zMem → Prop) : Prop :=
  ((¬ s0 = 0 → f_X3_search_b63 N rec x2 x4 x6 s0 M Q) ∧ (s0 = 0 → ((x5 < (5 : Int32) → f_X3_search_l78 N rec a1 x2 a3 x4 x5 Q N (0 : Int32) M) ∧ (¬ x5 < (5 : Int32) → f_X3_search_b63 N rec x2 x4 x6 s0 M Q))))
def f_X3_search_b49 (N : Nat) (rec : Nat → Int32 → Nat → Int32 → Int32 → zMem → (zMem → Prop) → Prop) (a1 : Nat) (x2 : Int32) (a3 : Nat) (x4 : Int32) (x5 : Int32) (x6 : Int32) (M : zMem) (Q : zMem → Prop) : Prop :=
  f_X3_search_b50 N rec a1 x2 a3 x4 x5 x6 (0 : Int32) M Q
def f_X3_search_e (N : Nat) (rec : Nat → Int32 → Nat → Int32 → Int32 → zMem → (zMem → Prop) → Prop) (a1 : Nat) (x2 : Int32) (a3 : Nat) (x4 : Int32) (x5 : Int32) (M : zMem) (Q : zMem → Prop) : Prop :=
  (f_X3_isOver N  M (fun (r1 : Int32) (M2 : zMem) => ((¬ r1 = 0 → Q M2) ∧ (r1 = 0 → (f_X4_whyApart N a1 x2 a3 x4 M2 (fun (r3 : Int32) (M4 : zMem) => ((r3 = 0 → (f_X4_wayOfTurn N a1 x2 a3 x4 M4 (fun (r5 : Int32) (M6 : zMem) => ((r5 = 0 → f_X3_search_b49 N rec a1 x2 a3 x4 x5 r5 M6 Q) ∧ (¬ r5 = 0 → (f_X4_endsCross N a1 x2 a3 x4 M6 (fun (r13 : Int32) (M14 : zMem) => ((r13 = 0 → f_X3_search_b49 N rec a1 x2 a3 x4 x5 r5 M14 Q) ∧ (¬ r13 = 0 → f_X3_search_b50 N rec a1 x2 a3 x4 x5 r5 (1 : Int32) M14 Q))))))))) ∧ (¬ r3 = 0 → Q M4))))))))
def f_X3_search (N : Nat) : Nat → Nat → Int32 → Nat → Int32 → Int32 → zMem → (zMem → Prop) → Prop
  | 0 => fun _ _ _ _ _ _ _ => False
  | d + 1 => f_X3_search_e N (f_X3_search N d)
def f_X3_find_b17 (N : Nat) (x2 : Int32) (x3 : Int32) (M : zMem) (Q : zMem → Prop) : Prop :=
  (∀ M1 : zMem, M1 = zwI M 38 10 x2 →  (∀ M2 : zMem, M2 = zwI M1 38 11 x3 →  (∀ M3 : zMem, M3 = zwI M2 38 5 (0 : Int32) →  (∀ M4 : zMem, M4 = zwI M3 38 6 (0 : Int32) →  (∀ M5 : zMem, M5 = zwI M4 38 7 (0 : Int32) →  (vp_in x2 4 ∧  (vp_in x3 4 ∧  (f_X3_search N 7 (5 + 6 * x2.toNatClampNeg) (1 : Int32) (5 + 6 * x3.toNatClampNeg) (1 : Int32) (0 : Int32) M5 (fun (M9 : zMem) =>  (f_X3_isOver N  M9 (fun (r10 : Int32) (M11 : zMem) => ((¬ r10 = 0 → Q M11) ∧ (r10 = 0 → (f_X3_gatherSpots N  M11 (fun (M13 : zMem) => Q M13)))))))))))))))
def f_X3_find (N : Nat) (x2 : Int32) (x3 : Int32) (M : zMem) (Q : zMem → Prop) : Prop :=
  ((¬ (M.1 38 10) = x2 → f_X3_find_b17 N x2 x3 M Q) ∧ ((M.1 38 10) = x2 → ((¬ (M.1 38 11) = x3 → f_X3_find_b17 N x2 x3 M Q) ∧ ((M.1 38 11) = x3 → Q M))))
def f_X3_countSpots_b70 (N : Nat) (x2 : Int32) (x3 : Int32) (M : zMem) (Q : Int32 → zMem → Prop) : Prop :=
  (vp_in (((4 : Int32) * x2) + x3) 16 ∧ Q (zrd M 46 (((4 : Int32) * x2) + x3)) M)
def f_X3_countSpots_b44 (N : Nat) (x2 : Int32) (x3 : Int32) (s0 : Int32) (M : zMem) (Q : Int32 → zMem → Prop) : Prop :=
  (vp_in (((4 : Int32) * x2) + x3) 16 ∧  (∀ M5 : zMem, M5 = zst M 46 (((4 : Int32) * x2) + x3) s0 →  (vp_in (((4 : Int32) * x3) + x2) 16 ∧  (∀ M6 : zMem, M6 = zst M5 46 (((4 : Int32) * x3) + x2) s0 → f_X3_countSpots_b70 N x2 x3 M6 Q))))
def f_X3_countSpots (N : Nat) (x2 : Int32) (x3 : Int32) (M : zMem) (Q : Int32 → zMem → Prop) : Prop :=
  ((¬ x2 = x3 → (vp_in (((4 : Int32) * x2) + x3) 16 ∧ ((¬ (zrd M 46 (((4 : Int32) * x2) + x3)) = (-1 : Int32) → f_X3_countSpots_b70 N x2 x3 M Q) ∧ ((zrd M 46 (((4 : Int32) * x2) + x3)) = (-1 : Int32) → (f_X3_find N x2 x3 M (fun (M2 : zMem) =>  (f_X3_isOver N  M2 (fun (r3 : Int32) (M4 : zMem) => ((r3 = 0 → f_X3_countSpots_b44 N x2 x3 (M4.1 38 7) M4 Q) ∧ (¬ r3 = 0 → f_X3_countSpots_b44 N x2 x3 (101 : Int32) M4 Q)))))))))) ∧ (x2 = x3 → Q (0 : Int32) M))
def f_X5_adds (N : Nat) (x1 : Int32) (M : zMem) (Q : Int32 → zMem → Prop) : Prop :=
  (((130 : Int32) ≤ (M.1 1 1) → Q (M.1 1 1) M) ∧ (¬ (130 : Int32) ≤ (M.1 1 1) → (vp_in (M.1 1 1) 130 ∧  (∀ M1 : zMem, M1 = zst M 2 (M.1 1 1) x1 →  (∀ M2 : zMem, M2 = zwI M1 1 1 ((M1.1 1 1) + (1 : Int32)) → Q (M2.1 1 1) M2)))))
def f_X5_empties (N : Nat)  (M : zMem) (Q : Int32 → zMem → Prop) : Prop :=
  (∀ v1 : Int32, v1 = M.1 1 1 →  (∀ M2 : zMem, M2 = zwI M 1 1 (0 : Int32) → Q v1 M2))
def f_X5_endsItem (N : Nat)  (M : zMem) (Q : Int32 → zMem → Prop) : Prop :=
  (((M.1 1 4) = (8 : Int32) → (∀ M1 : zMem, M1 = zwI M 1 3 ((M.1 1 3) + (1 : Int32)) →  (∀ M2 : zMem, M2 = zwI M1 1 4 (-1 : Int32) → Q (1 : Int32) M2))) ∧ (¬ (M.1 1 4) = (8 : Int32) → Q (0 : Int32) M))
def f_X5_isFigure (N : Nat) (x1 : Int32) (M : zMem) (Q : Int32 → zMem → Prop) : Prop :=
  (((M.1 1 1) ≤ x1 → Q (0 : Int32) M) ∧ (¬ (M.1 1 1) ≤ x1 → (vp_in x1 130 ∧ (((zrd M 2 x1) < (48 : Int32) → Q (0 : Int32) M) ∧ (¬ (zrd M 2 x1) < (48 : Int32) → (vp_in x1 130 ∧ (((57 : Int32) < (zrd M 2 x1) → Q (0 : Int32) M) ∧ (¬ (57 : Int32) < (zrd M 2 x1) → Q (1 : Int32) M))))))))
def f_X5_opensItem (N : Nat)  (M : zMem) (Q : Int32 → zMem → Prop) : Prop :=
  ((¬ (M.1 1 4) = (-1 : Int32) → Q (0 : Int32) M) ∧ ((M.1 1 4) = (-1 : Int32) → (((M.1 1 3) < (4 : Int32) → (∀ M1 : zMem, M1 = zwI M 1 4 (0 : Int32) → Q (1 : Int32) M1)) ∧ (¬ (M.1 1 3) < (4 : Int32) → Q (0 : Int32) M))))
def f_X5_wantsNumber (N : Nat)  (M : zMem) (Q : Int32 → zMem → Prop) : Prop :=
  (((4 : Int32) ≤ (M.1 1 3) → Q (0 : Int32) M) ∧ (¬ (4 : Int32) ≤ (M.1 1 3) → (((M.1 1 4) < 0 → Q (0 : Int32) M) ∧ (¬ (M.1 1 4) < 0 → (((8 : Int32) ≤ (M.1 1 4) → Q (0 : Int32) M) ∧ (¬ (8 : Int32) ≤ (M.1 1 4) → Q (1 : Int32) M))))))
def f_X5_takesMinus (N : Nat)  (M : zMem) (Q : Int32 → zMem → Prop) : Prop :=
  (f_X5_wantsNumber N  M (fun (r1 : Int32) (M2 : zMem) => ((r1 = 0 → Q (0 : Int32) M2) ∧ (¬ r1 = 0 → (((M2.1 1 5) = 0 → (∀ M3 : zMem, M3 = zwI M2 1 5 (1 : Int32) → Q (1 : Int32) M3)) ∧ (¬ (M2.1 1 5) = 0 → Q (0 : Int32) M2))))))
def f_X5_takesNumber_b58 (N : Nat) (s1 : Int32) (s2 : Int32) (M : zMem) (Q : Int32 → zMem → Prop) : Prop :=
  (vp_in s1 32 ∧  (∀ M6 : zMem, M6 = zst M 3 s1 s2 →  (∀ M7 : zMem, M7 = zwI M6 1 4 ((M6.1 1 4) + (1 : Int32)) →  (∀ M8 : zMem, M8 = zwI M7 1 5 (0 : Int32) → Q (1 : Int32) M8))))
def f_X5_takesNumber (N : Nat) (x1 : Int32) (M : zMem) (Q : Int32 → zMem → Prop) : Prop :=
  (f_X5_wantsNumber N  M (fun (r1 : Int32) (M2 : zMem) => ((r1 = 0 → Q (0 : Int32) M2) ∧ (¬ r1 = 0 → (f_X5_isFigure N (x1 + (1 : Int32)) M2 (fun (r3 : Int32) (M4 : zMem) => ((r3 = 0 → (vp_in x1 130 ∧  (∀ v5 : Int32, v5 = (zrd M4 2 x1) - (48 : Int32) → (((M4.1 1 5) = 0 → f_X5_takesNumber_b58 N (((M4.1 1 3) * (8 : Int32)) + (M4.1 1 4)) v5 M4 Q) ∧ (¬ (M4.1 1 5) = 0 → f_X5_takesNumber_b58 N (((M4.1 1 3) * (8 : Int32)) + (M4.1 1 4)) (-v5) M4 Q))))) ∧ (¬ r3 = 0 → Q (0 : Int32) M4))))))))
def f_X5_takesToken (N : Nat) (x1 : Int32) (M : zMem) (Q : Int32 → zMem → Prop) : Prop :=
  (f_X5_isFigure N x1 M (fun (r1 : Int32) (M2 : zMem) => ((r1 = 0 → (vp_in x1 130 ∧ (((zrd M2 2 x1) = (45 : Int32) → (f_X5_takesMinus N  M2 (fun (r3 : Int32) (M4 : zMem) => (zb r3 ∧ Q r3 M4)))) ∧ ((zrd M2 2 x1) = (59 : Int32) → (f_X5_endsItem N  M2 (fun (r5 : Int32) (M6 : zMem) => (zb r5 ∧ Q r5 M6)))) ∧ ((zrd M2 2 x1) = (97 : Int32) → (f_X5_opensItem N  M2 (fun (r7 : Int32) (M8 : zMem) => (zb r7 ∧ Q r7 M8)))) ∧ (¬ (zrd M2 2 x1) = (45 : Int32) → ¬ (zrd M2 2 x1) = (59 : Int32) → ¬ (zrd M2 2 x1) = (97 : Int32) → Q (0 : Int32) M2)))) ∧ (¬ r1 = 0 → (f_X5_takesNumber N x1 M2 (fun (r9 : Int32) (M10 : zMem) => (zb r9 ∧ Q r9 M10)))))))
def f_X5_findFault_b46 (N : Nat) (k17 : Int32 → zMem → Prop) (x1 : Int32) (M : zMem) (Q : Int32 → zMem → Prop) : Prop :=
  (∀ v4 : Int32, v4 = x1 + (1 : Int32) → k17 v4 M)
def f_X5_findFault_b17 (N : Nat) (k17 : Int32 → zMem → Prop) (x1 : Int32) (M : zMem) (Q : Int32 → zMem → Prop) : Prop :=
  (((M.1 1 1) ≤ x1 → ((¬ (M.1 1 4) = (-1 : Int32) → Q (M.1 1 1) M) ∧ ((M.1 1 4) = (-1 : Int32) → Q (-1 : Int32) M))) ∧ (¬ (M.1 1 1) ≤ x1 → (vp_in x1 130 ∧ (((zrd M 2 x1) = (32 : Int32) → f_X5_findFault_b46 N k17 x1 M Q) ∧ (¬ (zrd M 2 x1) = (32 : Int32) → (f_X5_takesToken N x1 M (fun (r5 : Int32) (M6 : zMem) => ((¬ r5 = 0 → f_X5_findFault_b46 N k17 x1 M6 Q) ∧ (r5 = 0 → Q x1 M6)))))))))
def f_X5_findFault_l17 (N : Nat)  (Q : Int32 → zMem → Prop) : Nat → Int32 → zMem → Prop
  | 0 => fun _ _ => False
  | n + 1 => fun x1 M => f_X5_findFault_b17 N  (f_X5_findFault_l17 N  Q n)  x1 M Q
def f_X5_findFault (N : Nat)  (M : zMem) (Q : Int32 → zMem → Prop) : Prop :=
  (∀ M1 : zMem, M1 = zwI M 1 3 (0 : Int32) →  (∀ M2 : zMem, M2 = zwI M1 1 4 (-1 : Int32) →  (∀ M3 : zMem, M3 = zwI M2 1 5 (0 : Int32) → f_X5_findFault_l17 N  Q N (0 : Int32) M3)))
def f_X6_adds (N : Nat) (x1 : Int32) (x2 : Int32) (M : zMem) (Q : Int32 → zMem → Prop) : Prop :=
  (((6 : Int32) ≤ (M.1 35 2) → Q (M.1 35 2) M) ∧ (¬ (6 : Int32) ≤ (M.1 35 2) → (vp_in (M.1 35 2) 6 ∧  (∀ M1 : zMem, M1 = zst M 36 (M.1 35 2) x1 →  (vp_in (M1.1 35 2) 6 ∧  (∀ M2 : zMem, M2 = zst M1 37 (M1.1 35 2) x2 →  (∀ M3 : zMem, M3 = zwI M2 35 2 ((M2.1 35 2) + (1 : Int32)) → Q (M3.1 35 2) M3)))))))
def f_X7_type (N : Nat) (x1 : Int32) (M : zMem) (Q : Int32 → zMem → Prop) : Prop :=
  ((x1 < 0 → Q (-1 : Int32) M) ∧ (¬ x1 < 0 → ((x1 ≤ (255 : Int32) → (((M.1 1 1) < (130 : Int32) → (f_X5_adds N x1 M (fun (r1 : Int32) (M2 : zMem) => Q r1 M2))) ∧ (¬ (M.1 1 1) < (130 : Int32) → Q (-3 : Int32) M))) ∧ (¬ x1 ≤ (255 : Int32) → Q (-1 : Int32) M))))
def f_X7_clear (N : Nat)  (M : zMem) (Q : Int32 → zMem → Prop) : Prop :=
  (f_X5_empties N  M (fun (r1 : Int32) (M2 : zMem) => Q r1 M2))
def f_X7_arcs_b39 (N : Nat) (k39 : Int32 → zMem → Prop) (x2 : Int32) (M : zMem) (Q : Int32 → zMem → Prop) : Prop :=
  (((M.1 0 2) ≤ x2 → (∀ M6 : zMem, M6 = zwI M 29 2 (0 : Int32) →  (∀ M7 : zMem, M7 = zwI M6 35 2 (0 : Int32) →  (f_X2_drop N  M7 (fun (M9 : zMem) =>  (f_X3_outdate N  M9 (fun (M11 : zMem) => Q (M11.1 0 2) M11))))))) ∧ (¬ (M.1 0 2) ≤ x2 → (vp_in x2 4 ∧  (f_X0_takes N (5 + 6 * x2.toNatClampNeg) 3 (x2 * (8 : Int32)) M (fun (M14 : zMem) =>  (∀ v15 : Int32, v15 = x2 + (1 : Int32) → k39 v15 M14))))))
def f_X7_arcs_l39 (N : Nat)  (Q : Int32 → zMem → Prop) : Nat → Int32 → zMem → Prop
  | 0 => fun _ _ => False
  | n + 1 => fun x2 M => f_X7_arcs_b39 N  (f_X7_arcs_l39 N  Q n)  x2 M Q
def f_X7_arcs (N : Nat)  (M : zMem) (Q : Int32 → zMem → Prop) : Prop :=
  (f_X5_findFault N  M (fun (r1 : Int32) (M2 : zMem) => ((r1 = (-1 : Int32) → (f_X5_empties N  M2 (fun (r3 : Int32) (M4 : zMem) =>  (∀ M5 : zMem, M5 = zwI M4 0 2 (M4.1 1 3) → f_X7_arcs_l39 N  Q N (0 : Int32) M5)))) ∧ (¬ r1 = (-1 : Int32) → Q ((-10 : Int32) - r1) M2))))
def f_X7_isArc (N : Nat) (x1 : Int32) (M : zMem) (Q : Int32 → zMem → Prop) : Prop :=
  ((x1 < 0 → Q (0 : Int32) M) ∧ (¬ x1 < 0 → (((M.1 0 2) ≤ x1 → Q (0 : Int32) M) ∧ (¬ (M.1 0 2) ≤ x1 → Q (1 : Int32) M))))
def f_X7_isAxis (N : Nat) (x0 : Int32) (M : zMem) (Q : Int32 → zMem → Prop) : Prop :=
  ((x0 = 0 → Q (1 : Int32) M) ∧ (¬ x0 = 0 → ((¬ x0 = (1 : Int32) → Q (0 : Int32) M) ∧ (x0 = (1 : Int32) → Q (1 : Int32) M))))
def f_X7_isNode (N : Nat) (x0 : Int32) (M : zMem) (Q : Int32 → zMem → Prop) : Prop :=
  ((x0 < (1 : Int32) → Q (0 : Int32) M) ∧ (¬ x0 < (1 : Int32) → (((63 : Int32) < x0 → Q (0 : Int32) M) ∧ (¬ (63 : Int32) < x0 → Q (1 : Int32) M))))
def f_X7_isPoint (N : Nat) (x0 : Int32) (M : zMem) (Q : Int32 → zMem → Prop) : Prop :=
  ((x0 < 0 → Q (0 : Int32) M) ∧ (¬ x0 < 0 → (((4 : Int32) ≤ x0 → Q (0 : Int32) M) ∧ (¬ (4 : Int32) ≤ x0 → Q (1 : Int32) M))))
def f_X7_point (N : Nat) (x1 : Int32) (x2 : Int32) (x3 : Int32) (x4 : Int32) (M : zMem) (Q : Int32 → zMem → Prop) : Prop :=
  (f_X7_isArc N x1 M (fun (r1 : Int32) (M2 : zMem) => ((r1 = 0 → Q (-2147483647 : Int32) M2) ∧ (¬ r1 = 0 → (f_X7_isNode N x2 M2 (fun (r3 : Int32) (M4 : zMem) => ((r3 = 0 → Q (-2147483647 : Int32) M4) ∧ (¬ r3 = 0 → (f_X7_isPoint N x3 M4 (fun (r5 : Int32) (M6 : zMem) => ((r5 = 0 → Q (-2147483647 : Int32) M6) ∧ (¬ r5 = 0 → (f_X7_isAxis N x4 M6 (fun (r7 : Int32) (M8 : zMem) => ((¬ r7 = 0 → (vp_in x1 4 ∧  (f_X0_at N (5 + 6 * x1.toNatClampNeg) x2 x3 x4 M8 (fun (r10 : Int32) (M11 : zMem) => Q r10 M11)))) ∧ (r7 = 0 → Q (-2147483647 : Int32) M8))))))))))))))))
def f_X7_startChange (N : Nat) (x1 : Int32) (M : zMem) (Q : zMem → Prop) : Prop :=
  (vp_in x1 4 ∧  (f_X1_adds N x1 ((5 + 6 * x1.toNatClampNeg) + 1) M (fun (M3 : zMem) =>  (f_X3_outdate N  M3 (fun (M5 : zMem) => Q M5)))))
def f_X7_moves_b74 (N : Nat) (x1 : Int32) (x2 : Int32) (x3 : Int32) (x4 : Int32) (a5 : Nat) (M : zMem) (Q : Int32 → zMem → Prop) : Prop :=
  (f_X7_startChange N x1 M (fun (M11 : zMem) =>  (vp_in ((2 : Int32) * x2) 8 ∧  (∀ M12 : zMem, M12 = zst M11 (a5 + 1) ((2 : Int32) * x2) x3 →  (vp_in (((2 : Int32) * x2) + (1 : Int32)) 8 ∧  (∀ M13 : zMem, M13 = zst M12 (a5 + 1) (((2 : Int32) * x2) + (1 : Int32)) x4 →  (f_X0_halveAll N a5 M13 (fun (M15 : zMem) => Q (1 : Int32) M15))))))))
def f_X7_moves (N : Nat) (x1 : Int32) (x2 : Int32) (x3 : Int32) (x4 : Int32) (M : zMem) (Q : Int32 → zMem → Prop) : Prop :=
  (f_X7_isArc N x1 M (fun (r1 : Int32) (M2 : zMem) => ((r1 = 0 → Q (-1 : Int32) M2) ∧ (¬ r1 = 0 → (f_X7_isPoint N x2 M2 (fun (r3 : Int32) (M4 : zMem) => ((r3 = 0 → Q (-1 : Int32) M4) ∧ (¬ r3 = 0 → (f_X7_isCoordinate N (x3.toInt64) M4 (fun (r5 : Int32) (M6 : zMem) => ((r5 = 0 → Q (-1 : Int32) M6) ∧ (¬ r5 = 0 → (f_X7_isCoordinate N (x4.toInt64) M6 (fun (r7 : Int32) (M8 : zMem) => ((¬ r7 = 0 → (vp_in x1 4 ∧  (vp_in ((2 : Int32) * x2) 8 ∧ ((¬ (zrd M8 ((5 + 6 * x1.toNatClampNeg) + 1) ((2 : Int32) * x2)) = x3 → f_X7_moves_b74 N x1 x2 x3 x4 (5 + 6 * x1.toNatClampNeg) M8 Q) ∧ ((zrd M8 ((5 + 6 * x1.toNatClampNeg) + 1) ((2 : Int32) * x2)) = x3 → (vp_in (((2 : Int32) * x2) + (1 : Int32)) 8 ∧ ((¬ (zrd M8 ((5 + 6 * x1.toNatClampNeg) + 1) (((2 : Int32) * x2) + (1 : Int32))) = x4 → f_X7_moves_b74 N x1 x2 x3 x4 (5 + 6 * x1.toNatClampNeg) M8 Q) ∧ ((zrd M8 ((5 + 6 * x1.toNatClampNeg) + 1) (((2 : Int32) * x2) + (1 : Int32))) = x4 → Q (-2 : Int32) M8)))))))) ∧ (r7 = 0 → Q (-1 : Int32) M8))))))))))))))))
def f_X7_shifts_b35 (N : Nat) (x1 : Int32) (x2 : Int32) (x3 : Int32) (M : zMem) (Q : Int32 → zMem → Prop) : Prop :=
  (f_X7_startChange N x1 M (fun (M7 : zMem) =>  (vp_in x1 4 ∧  (f_X0_shiftAll N (5 + 6 * x1.toNatClampNeg) x2 x3 M7 (fun (M10 : zMem) => Q (1 : Int32) M10)))))
def f_X7_shifts (N : Nat) (x1 : Int32) (x2 : Int32) (x3 : Int32) (M : zMem) (Q : Int32 → zMem → Prop) : Prop :=
  (f_X7_isArc N x1 M (fun (r1 : Int32) (M2 : zMem) => ((r1 = 0 → Q (-1 : Int32) M2) ∧ (¬ r1 = 0 → (vp_in x1 4 ∧  (f_X0_canShift N (5 + 6 * x1.toNatClampNeg) x2 x3 M2 (fun (r4 : Int32) (M5 : zMem) => ((¬ r4 = 0 → ((¬ x2 = 0 → f_X7_shifts_b35 N x1 x2 x3 M5 Q) ∧ (x2 = 0 → ((¬ x3 = 0 → f_X7_shifts_b35 N x1 x2 x3 M5 Q) ∧ (x3 = 0 → Q (-2 : Int32) M5))))) ∧ (r4 = 0 → Q (-1 : Int32) M5)))))))))
def f_X7_reverses (N : Nat) (x1 : Int32) (M : zMem) (Q : Int32 → zMem → Prop) : Prop :=
  (f_X7_isArc N x1 M (fun (r1 : Int32) (M2 : zMem) => ((¬ r1 = 0 → (f_X7_startChange N x1 M2 (fun (M4 : zMem) =>  (vp_in x1 4 ∧  (f_X0_turnRound N (5 + 6 * x1.toNatClampNeg) M4 (fun (M7 : zMem) => Q (1 : Int32) M7)))))) ∧ (r1 = 0 → Q (-1 : Int32) M2))))
def f_X7_undo (N : Nat)  (M : zMem) (Q : Int32 → zMem → Prop) : Prop :=
  ((0 < (M.1 29 2) → (∀ v1 : Int32, v1 = (M.1 29 2) - (1 : Int32) →  (∀ M2 : zMem, M2 = zwI M 29 2 v1 →  (vp_in v1 10 ∧  (vp_in (zrd M2 30 v1) 4 ∧  (f_X0_takes N (5 + 6 * (zrd M2 30 v1).toNatClampNeg) 31 (v1 * (8 : Int32)) M2 (fun (M5 : zMem) =>  (f_X3_outdate N  M5 (fun (M7 : zMem) => Q v1 M7))))))))) ∧ (¬ 0 < (M.1 29 2) → Q (-2 : Int32) M))
def f_X7_areTwoArcs (N : Nat) (x1 : Int32) (x2 : Int32) (M : zMem) (Q : Int32 → zMem → Prop) : Prop :=
  (f_X7_isArc N x1 M (fun (r1 : Int32) (M2 : zMem) => ((r1 = 0 → Q (0 : Int32) M2) ∧ (¬ r1 = 0 → (f_X7_isArc N x2 M2 (fun (r3 : Int32) (M4 : zMem) => ((r3 = 0 → Q (0 : Int32) M4) ∧ (¬ r3 = 0 → ((x1 = x2 → Q (0 : Int32) M4) ∧ (¬ x1 = x2 → Q (1 : Int32) M4))))))))))
def f_X7_apart (N : Nat) (x1 : Int32) (x2 : Int32) (x3 : Int32) (x4 : Int32) (M : zMem) (Q : Int32 → zMem → Prop) : Prop :=
  (f_X7_areTwoArcs N x1 x3 M (fun (r1 : Int32) (M2 : zMem) => ((r1 = 0 → Q (-1 : Int32) M2) ∧ (¬ r1 = 0 → (f_X7_isNode N x2 M2 (fun (r3 : Int32) (M4 : zMem) => ((r3 = 0 → Q (-1 : Int32) M4) ∧ (¬ r3 = 0 → (f_X7_isNode N x4 M4 (fun (r5 : Int32) (M6 : zMem) => ((¬ r5 = 0 → (vp_in x1 4 ∧  (vp_in x3 4 ∧  (f_X4_whyApart N (5 + 6 * x1.toNatClampNeg) x2 (5 + 6 * x3.toNatClampNeg) x4 M6 (fun (r9 : Int32) (M10 : zMem) => Q r9 M10))))) ∧ (r5 = 0 → Q (-1 : Int32) M6))))))))))))
def f_X7_turn_b63 (N : Nat) (x1 : Int32) (x2 : Int32) (x3 : Int32) (x4 : Int32) (s0 : Int32) (M : zMem) (Q : Int32 → zMem → Prop) : Prop :=
  (vp_in x1 4 ∧  (vp_in x3 4 ∧  (f_X4_endsCross N (5 + 6 * x1.toNatClampNeg) x2 (5 + 6 * x3.toNatClampNeg) x4 M (fun (r13 : Int32) (M14 : zMem) => ((r13 = 0 → Q s0 M14) ∧ (¬ r13 = 0 → Q (s0 + (2 : Int32)) M14))))))
def f_X7_turn (N : Nat) (x1 : Int32) (x2 : Int32) (x3 : Int32) (x4 : Int32) (M : zMem) (Q : Int32 → zMem → Prop) : Prop :=
  (f_X7_areTwoArcs N x1 x3 M (fun (r1 : Int32) (M2 : zMem) => ((r1 = 0 → Q (-1 : Int32) M2) ∧ (¬ r1 = 0 → (f_X7_isNode N x2 M2 (fun (r3 : Int32) (M4 : zMem) => ((r3 = 0 → Q (-1 : Int32) M4) ∧ (¬ r3 = 0 → (f_X7_isNode N x4 M4 (fun (r5 : Int32) (M6 : zMem) => ((¬ r5 = 0 → (vp_in x1 4 ∧  (vp_in x3 4 ∧  (f_X4_wayOfTurn N (5 + 6 * x1.toNatClampNeg) x2 (5 + 6 * x3.toNatClampNeg) x4 M6 (fun (r9 : Int32) (M10 : zMem) => ((¬ r9 = 0 → ((r9 ≤ 0 → f_X7_turn_b63 N x1 x2 x3 x4 (2 : Int32) M10 Q) ∧ (¬ r9 ≤ 0 → f_X7_turn_b63 N x1 x2 x3 x4 (1 : Int32) M10 Q))) ∧ (r9 = 0 → Q (0 : Int32) M10))))))) ∧ (r5 = 0 → Q (-1 : Int32) M6))))))))))))
def f_X7_whichSigns_b14 (N : Nat) (x0 : Int64) (x2 : Int64) (M : zMem) (Q : Int32 → zMem → Prop) : Prop :=
  ((x0 < (0 : Int64) → (((0 : Int64) < x2 → Q (3 : Int32) M) ∧ (¬ (0 : Int64) < x2 → Q (2 : Int32) M))) ∧ (¬ x0 < (0 : Int64) → Q (1 : Int32) M))
def f_X7_whichSigns (N : Nat) (x0 : Int64) (x2 : Int64) (M : zMem) (Q : Int32 → zMem → Prop) : Prop :=
  ((¬ x0 = (0 : Int64) → f_X7_whichSigns_b14 N x0 x2 M Q) ∧ (x0 = (0 : Int64) → ((¬ x2 = (0 : Int64) → f_X7_whichSigns_b14 N x0 x2 M Q) ∧ (x2 = (0 : Int64) → Q (0 : Int32) M))))
def f_X7_bends (N : Nat) (x1 : Int32) (x2 : Int32) (M : zMem) (Q : Int32 → zMem → Prop) : Prop :=
  (f_X7_isArc N x1 M (fun (r1 : Int32) (M2 : zMem) => ((r1 = 0 → Q (-1 : Int32) M2) ∧ (¬ r1 = 0 → (f_X7_isNode N x2 M2 (fun (r3 : Int32) (M4 : zMem) => ((¬ r3 = 0 → (vp_in x1 4 ∧  (f_X4_crossOfSteps N (5 + 6 * x1.toNatClampNeg) x2 (0 : Int32) (5 + 6 * x1.toNatClampNeg) x2 (1 : Int32) M4 (fun (r6 : Int64) (M7 : zMem) =>  (f_X4_crossOfSteps N (5 + 6 * x1.toNatClampNeg) x2 (1 : Int32) (5 + 6 * x1.toNatClampNeg) x2 (2 : Int32) M7 (fun (r8 : Int64) (M9 : zMem) =>  (f_X7_whichSigns N (if r8 < r6 then r8 else r6) (if r8 < r6 then r6 else r8) M9 (fun (r10 : Int32) (M11 : zMem) => Q r10 M11)))))))) ∧ (r3 = 0 → Q (-1 : Int32) M4))))))))
def f_X7_goes_b45 (N : Nat) (k45 : Int32 → Int32 → Int32 → zMem → Prop) (x1 : Int32) (x2 : Int32) (x3 : Int32) (x4 : Int32) (x5 : Int32) (x6 : Int32) (M : zMem) (Q : Int32 → zMem → Prop) : Prop :=
  (((3 : Int32) ≤ x6 → (f_X7_whichSigns N (x4.toInt64) (x5.toInt64) M (fun (r10 : Int32) (M11 : zMem) => Q r10 M11))) ∧ (¬ (3 : Int32) ≤ x6 → (vp_in x1 4 ∧  (f_X0_step N (5 + 6 * x1.toNatClampNeg) x2 x6 x3 M (fun (r13 : Int32) (M14 : zMem) =>  (∀ v15 : Int32, v15 = (if r13 < x4 then r13 else x4) →  (∀ v16 : Int32, v16 = (if x5 < r13 then r13 else x5) →  (∀ v17 : Int32, v17 = x6 + (1 : Int32) → k45 v15 v16 v17 M14))))))))
def f_X7_goes_l45 (N : Nat) (x1 : Int32) (x2 : Int32) (x3 : Int32) (Q : Int32 → zMem → Prop) : Nat → Int32 → Int32 → Int32 → zMem → Prop
  | 0 => fun _ _ _ _ => False
  | n + 1 => fun x4 x5 x6 M => f_X7_goes_b45 N  (f_X7_goes_l45 N x1 x2 x3 Q n) x1 x2 x3 x4 x5 x6 M Q
def f_X7_goes (N : Nat) (x1 : Int32) (x2 : Int32) (x3 : Int32) (M : zMem) (Q : Int32 → zMem → Prop) : Prop :=
  (f_X7_isArc N x1 M (fun (r1 : Int32) (M2 : zMem) => ((r1 = 0 → Q (-1 : Int32) M2) ∧ (¬ r1 = 0 → (f_X7_isNode N x2 M2 (fun (r3 : Int32) (M4 : zMem) => ((r3 = 0 → Q (-1 : Int32) M4) ∧ (¬ r3 = 0 → (f_X7_isAxis N x3 M4 (fun (r5 : Int32) (M6 : zMem) => ((¬ r5 = 0 → (vp_in x1 4 ∧  (f_X0_step N (5 + 6 * x1.toNatClampNeg) x2 (0 : Int32) x3 M6 (fun (r8 : Int32) (M9 : zMem) => f_X7_goes_l45 N x1 x2 x3 Q N r8 r8 (1 : Int32) M9)))) ∧ (r5 = 0 → Q (-1 : Int32) M6))))))))))))
def f_X7_commonDivisor_b23 (N : Nat) (k3 : Int32 → zMem → Prop) (x0 : Int32) (x1 : Int32) (M : zMem) (Q : Int32 → zMem → Prop) : Prop :=
  (∀ v1 : Int32, v1 = x1 + (-1 : Int32) → k3 v1 M)
def f_X7_commonDivisor_b3 (N : Nat) (k3 : Int32 → zMem → Prop) (x0 : Int32) (x1 : Int32) (M : zMem) (Q : Int32 → zMem → Prop) : Prop :=
  ((x1 ≤ (1 : Int32) → Q (1 : Int32) M) ∧ (¬ x1 ≤ (1 : Int32) → ((¬ x1 = 0) ∧ ((¬ ((20 : Int32) - (20 : Int32) / x1 * x1) = 0 → f_X7_commonDivisor_b23 N k3 x0 x1 M Q) ∧ (((20 : Int32) - (20 : Int32) / x1 * x1) = 0 → ((¬ x1 = 0) ∧ ((¬ (x0 - x0 / x1 * x1) = 0 → f_X7_commonDivisor_b23 N k3 x0 x1 M Q) ∧ ((x0 - x0 / x1 * x1) = 0 → Q x1 M))))))))
def f_X7_commonDivisor_l3 (N : Nat) (x0 : Int32) (Q : Int32 → zMem → Prop) : Nat → Int32 → zMem → Prop
  | 0 => fun _ _ => False
  | n + 1 => fun x1 M => f_X7_commonDivisor_b3 N  (f_X7_commonDivisor_l3 N x0 Q n) x0 x1 M Q
def f_X7_commonDivisor (N : Nat) (x0 : Int32) (M : zMem) (Q : Int32 → zMem → Prop) : Prop :=
  f_X7_commonDivisor_l3 N x0 Q N (20 : Int32) M
def f_X7_area_b63 (N : Nat) (k30 : Int32 → Int32 → zMem → Prop) (x1 : Int32) (x2 : Int32) (x3 : Int32) (x4 : Int32) (M : zMem) (Q : Int32 → zMem → Prop) : Prop :=
  (∀ v7 : Int32, v7 = x4 + (1 : Int32) → k30 x3 v7 M)
def f_X7_area_b50 (N : Nat) (k30 : Int32 → Int32 → zMem → Prop) (x1 : Int32) (x2 : Int32) (x3 : Int32) (x4 : Int32) (M : zMem) (Q : Int32 → zMem → Prop) : Prop :=
  (vp_in x4 4 ∧  (f_X0_areaParts N (5 + 6 * x4.toNatClampNeg) M (fun (r4 : Int32) (M5 : zMem) =>  (∀ v6 : Int32, v6 = x3 + r4 → f_X7_area_b63 N k30 x1 x2 v6 x4 M5 Q))))
def f_X7_area_b30 (N : Nat) (k30 : Int32 → Int32 → zMem → Prop) (x1 : Int32) (x2 : Int32) (x3 : Int32) (x4 : Int32) (M : zMem) (Q : Int32 → zMem → Prop) : Prop :=
  (((M.1 0 2) ≤ x4 → (f_X7_commonDivisor N x3 M (fun (r1 : Int32) (M2 : zMem) => ((¬ x2 = 0 → ((¬ r1 = 0) ∧ Q ((20 : Int32) / r1) M2)) ∧ (x2 = 0 → ((¬ r1 = 0) ∧ Q (x3 / r1) M2)))))) ∧ (¬ (M.1 0 2) ≤ x4 → ((x1 = (-1 : Int32) → f_X7_area_b50 N k30 x1 x2 x3 x4 M Q) ∧ (¬ x1 = (-1 : Int32) → ((¬ x1 = x4 → f_X7_area_b63 N k30 x1 x2 x3 x4 M Q) ∧ (x1 = x4 → f_X7_area_b50 N k30 x1 x2 x3 x4 M Q))))))
def f_X7_area_l30 (N : Nat) (x1 : Int32) (x2 : Int32) (Q : Int32 → zMem → Prop) : Nat → Int32 → Int32 → zMem → Prop
  | 0 => fun _ _ _ => False
  | n + 1 => fun x3 x4 M => f_X7_area_b30 N  (f_X7_area_l30 N x1 x2 Q n) x1 x2 x3 x4 M Q
def f_X7_area_b13 (N : Nat) (x1 : Int32) (x2 : Int32) (M : zMem) (Q : Int32 → zMem → Prop) : Prop :=
  ((x2 < 0 → Q (-2147483647 : Int32) M) ∧ (¬ x2 < 0 → ((x2 ≤ (1 : Int32) → f_X7_area_l30 N x1 x2 Q N (0 : Int32) (0 : Int32) M) ∧ (¬ x2 ≤ (1 : Int32) → Q (-2147483647 : Int32) M))))
def f_X7_area (N : Nat) (x1 : Int32) (x2 : Int32) (M : zMem) (Q : Int32 → zMem → Prop) : Prop :=
  ((x1 = (-1 : Int32) → f_X7_area_b13 N x1 x2 M Q) ∧ (¬ x1 = (-1 : Int32) → (f_X7_isArc N x1 M (fun (r8 : Int32) (M9 : zMem) => ((r8 = 0 → Q (-2147483647 : Int32) M9) ∧ (¬ r8 = 0 → f_X7_area_b13 N x1 x2 M9 Q))))))
def f_X7_meets (N : Nat) (x1 : Int32) (x2 : Int32) (x3 : Int32) (M : zMem) (Q : Int32 → zMem → Prop) : Prop :=
  (f_X7_areTwoArcs N x1 x2 M (fun (r1 : Int32) (M2 : zMem) => ((r1 = 0 → Q (-1 : Int32) M2) ∧ (¬ r1 = 0 → ((x3 < 0 → Q (-1 : Int32) M2) ∧ (¬ x3 < 0 → ((x3 ≤ (2 : Int32) → (f_X3_find N x1 x2 M2 (fun (M4 : zMem) =>  (f_X3_isOver N  M4 (fun (r5 : Int32) (M6 : zMem) => ((r5 = 0 → ((x3 = (0 : Int32) → Q (M6.1 38 6) M6) ∧ (x3 = (1 : Int32) → Q ((M6.1 38 5) - (M6.1 38 6)) M6) ∧ (¬ x3 = (0 : Int32) → ¬ x3 = (1 : Int32) → Q (M6.1 38 7) M6))) ∧ (¬ r5 = 0 → Q (-4 : Int32) M6))))))) ∧ (¬ x3 ≤ (2 : Int32) → Q (-1 : Int32) M2))))))))
def f_X7_meeting (N : Nat) (x1 : Int32) (x2 : Int32) (x3 : Int32) (x4 : Int32) (M : zMem) (Q : Int32 → zMem → Prop) : Prop :=
  (f_X7_areTwoArcs N x1 x2 M (fun (r1 : Int32) (M2 : zMem) => ((r1 = 0 → Q (-1 : Int32) M2) ∧ (¬ r1 = 0 → ((x3 < 0 → Q (-1 : Int32) M2) ∧ (¬ x3 < 0 → ((x4 < 0 → Q (-1 : Int32) M2) ∧ (¬ x4 < 0 → ((x4 ≤ (2 : Int32) → (f_X3_find N x1 x2 M2 (fun (M4 : zMem) =>  (f_X3_isOver N  M4 (fun (r5 : Int32) (M6 : zMem) => ((r5 = 0 → ((x3 < (M6.1 38 5) → ((x4 = (0 : Int32) → (vp_in x3 101 ∧ Q (zrd M6 39 x3) M6)) ∧ (x4 = (1 : Int32) → (vp_in x3 101 ∧ Q (zrd M6 40 x3) M6)) ∧ (¬ x4 = (0 : Int32) → ¬ x4 = (1 : Int32) → (vp_in x3 101 ∧ Q (zrd M6 43 x3) M6)))) ∧ (¬ x3 < (M6.1 38 5) → Q (-9 : Int32) M6))) ∧ (¬ r5 = 0 → Q (-4 : Int32) M6))))))) ∧ (¬ x4 ≤ (2 : Int32) → Q (-1 : Int32) M2))))))))))
def f_X7_spot (N : Nat) (x1 : Int32) (x2 : Int32) (x3 : Int32) (x4 : Int32) (M : zMem) (Q : Int32 → zMem → Prop) : Prop :=
  (f_X7_areTwoArcs N x1 x2 M (fun (r1 : Int32) (M2 : zMem) => ((r1 = 0 → Q (-1 : Int32) M2) ∧ (¬ r1 = 0 → ((x3 < 0 → Q (-1 : Int32) M2) ∧ (¬ x3 < 0 → ((x4 < 0 → Q (-1 : Int32) M2) ∧ (¬ x4 < 0 → ((x4 ≤ (5 : Int32) → (f_X3_find N x1 x2 M2 (fun (M4 : zMem) =>  (f_X3_isOver N  M4 (fun (r5 : Int32) (M6 : zMem) => ((r5 = 0 → ((x3 < (M6.1 38 7) → (f_X3_tellSpot N x3 x4 M6 (fun (r7 : Int32) (M8 : zMem) => Q r7 M8))) ∧ (¬ x3 < (M6.1 38 7) → Q (-9 : Int32) M6))) ∧ (¬ r5 = 0 → Q (-4 : Int32) M6))))))) ∧ (¬ x4 ≤ (5 : Int32) → Q (-1 : Int32) M2))))))))))
def f_X7_busiest_b82 (N : Nat) (k24 : Int32 → Int32 → Int32 → Int32 → zMem → Prop) (k39 : Int32 → Int32 → Int32 → Int32 → zMem → Prop) (x1 : Int32) (x2 : Int32) (x3 : Int32) (x4 : Int32) (x5 : Int32) (x6 : Int32) (M : zMem) (Q : Int32 → zMem → Prop) : Prop :=
  (∀ v5 : Int32, v5 = x6 + (1 : Int32) → k39 x2 x3 x4 v5 M)
def f_X7_busiest_b39 (N : Nat) (k24 : Int32 → Int32 → Int32 → Int32 → zMem → Prop) (k39 : Int32 → Int32 → Int32 → Int32 → zMem → Prop) (x1 : Int32) (x5 : Int32) (x2 : Int32) (x3 : Int32) (x4 : Int32) (x6 : Int32) (M : zMem) (Q : Int32 → zMem → Prop) : Prop :=
  (((M.1 0 2) ≤ x6 → (∀ v2 : Int32, v2 = x5 + (1 : Int32) → k24 x2 x3 x4 v2 M)) ∧ (¬ (M.1 0 2) ≤ x6 → (f_X3_countSpots N x5 x6 M (fun (r3 : Int32) (M4 : zMem) => ((r3 ≤ x4 → f_X7_busiest_b82 N k24 k39 x1 x2 x3 x4 x5 x6 M4 Q) ∧ (¬ r3 ≤ x4 → f_X7_busiest_b82 N k24 k39 x1 x5 x6 r3 x5 x6 M4 Q))))))
def f_X7_busiest_l39 (N : Nat) (k24 : Int32 → Int32 → Int32 → Int32 → zMem → Prop) (x1 : Int32) (x5 : Int32) (Q : Int32 → zMem → Prop) : Nat → Int32 → Int32 → Int32 → Int32 → zMem → Prop
  | 0 => fun _ _ _ _ _ => False
  | n + 1 => fun x2 x3 x4 x6 M => f_X7_busiest_b39 N k24 (f_X7_busiest_l39 N k24 x1 x5 Q n) x1 x5 x2 x3 x4 x6 M Q
def f_X7_busiest_b24 (N : Nat) (k24 : Int32 → Int32 → Int32 → Int32 → zMem → Prop) (x1 : Int32) (x2 : Int32) (x3 : Int32) (x4 : Int32) (x5 : Int32) (M : zMem) (Q : Int32 → zMem → Prop) : Prop :=
  (((M.1 0 2) ≤ x5 → ((x1 = (0 : Int32) → Q x2 M) ∧ (x1 = (1 : Int32) → Q x3 M) ∧ (¬ x1 = (0 : Int32) → ¬ x1 = (1 : Int32) → Q x4 M))) ∧ (¬ (M.1 0 2) ≤ x5 → (∀ v1 : Int32, v1 = x5 + (1 : Int32) → f_X7_busiest_l39 N k24 x1 x5 Q N x2 x3 x4 v1 M)))
def f_X7_busiest_l24 (N : Nat) (x1 : Int32) (Q : Int32 → zMem → Prop) : Nat → Int32 → Int32 → Int32 → Int32 → zMem → Prop
  | 0 => fun _ _ _ _ _ => False
  | n + 1 => fun x2 x3 x4 x5 M => f_X7_busiest_b24 N  (f_X7_busiest_l24 N x1 Q n) x1 x2 x3 x4 x5 M Q
def f_X7_busiest (N : Nat) (x1 : Int32) (M : zMem) (Q : Int32 → zMem → Prop) : Prop :=
  ((x1 < 0 → Q (-1 : Int32) M) ∧ (¬ x1 < 0 → ((x1 ≤ (2 : Int32) → f_X7_busiest_l24 N x1 Q N (-9 : Int32) (-9 : Int32) (-9 : Int32) (0 : Int32) M) ∧ (¬ x1 ≤ (2 : Int32) → Q (-1 : Int32) M))))
def f_X7_sees (N : Nat) (x1 : Int32) (x2 : Int32) (M : zMem) (Q : Int32 → zMem → Prop) : Prop :=
  (f_X7_isArc N x1 M (fun (r1 : Int32) (M2 : zMem) => ((r1 = 0 → Q (-1 : Int32) M2) ∧ (¬ r1 = 0 → ((x2 < 0 → Q (-1 : Int32) M2) ∧ (¬ x2 < 0 → ((x2 ≤ (101 : Int32) → (((M2.1 35 2) < (6 : Int32) → (f_X6_adds N x1 x2 M2 (fun (r3 : Int32) (M4 : zMem) => Q r3 M4))) ∧ (¬ (M2.1 35 2) < (6 : Int32) → Q (-3 : Int32) M2))) ∧ (¬ x2 ≤ (101 : Int32) → Q (-1 : Int32) M2))))))))
def f_X7_forget (N : Nat)  (M : zMem) (Q : Int32 → zMem → Prop) : Prop :=
  (∀ v1 : Int32, v1 = M.1 35 2 →  (∀ M2 : zMem, M2 = zwI M 35 2 (0 : Int32) → Q v1 M2))
def f_X7_unseen_b90 (N : Nat) (k4 : Int32 → Int32 → zMem → Prop) (x1 : Int32) (x2 : Int32) (M : zMem) (Q : Int32 → zMem → Prop) : Prop :=
  (∀ v1 : Int32, v1 = x2 + (1 : Int32) → k4 x1 v1 M)
def f_X7_unseen_b80 (N : Nat) (k4 : Int32 → Int32 → zMem → Prop) (x1 : Int32) (x2 : Int32) (x3 : Int32) (M : zMem) (Q : Int32 → zMem → Prop) : Prop :=
  ((x3 = 0 → f_X7_unseen_b90 N k4 x1 x2 M Q) ∧ (¬ x3 = 0 → (∀ v2 : Int32, v2 = x1 ||| ((1 : Int32) <<< (x2 &&& 31)) → f_X7_unseen_b90 N k4 v2 x2 M Q)))
def f_X7_unseen_b73 (N : Nat) (k4 : Int32 → Int32 → zMem → Prop) (k17 : Int32 → Int32 → zMem → Prop) (x1 : Int32) (x2 : Int32) (x4 : Int32) (s0 : Int32) (M : zMem) (Q : Int32 → zMem → Prop) : Prop :=
  (∀ v5 : Int32, v5 = x4 + (1 : Int32) → k17 s0 v5 M)
def f_X7_unseen_b17 (N : Nat) (k4 : Int32 → Int32 → zMem → Prop) (k17 : Int32 → Int32 → zMem → Prop) (x1 : Int32) (x2 : Int32) (x3 : Int32) (x4 : Int32) (M : zMem) (Q : Int32 → zMem → Prop) : Prop :=
  (((M.1 35 2) ≤ x4 → f_X7_unseen_b80 N k4 x1 x2 x3 M Q) ∧ (¬ (M.1 35 2) ≤ x4 → ((x3 = 0 → f_X7_unseen_b80 N k4 x1 x2 x3 M Q) ∧ (¬ x3 = 0 → (vp_in x4 6 ∧  (f_X3_countSpots N x2 (zrd M 36 x4) M (fun (r3 : Int32) (M4 : zMem) =>  (vp_in x4 6 ∧ ((¬ r3 = (zrd M4 37 x4) → f_X7_unseen_b73 N k4 k17 x1 x2 x4 (0 : Int32) M4 Q) ∧ (r3 = (zrd M4 37 x4) → f_X7_unseen_b73 N k4 k17 x1 x2 x4 (1 : Int32) M4 Q))))))))))
def f_X7_unseen_l17 (N : Nat) (k4 : Int32 → Int32 → zMem → Prop) (x1 : Int32) (x2 : Int32) (Q : Int32 → zMem → Prop) : Nat → Int32 → Int32 → zMem → Prop
  | 0 => fun _ _ _ => False
  | n + 1 => fun x3 x4 M => f_X7_unseen_b17 N k4 (f_X7_unseen_l17 N k4 x1 x2 Q n) x1 x2 x3 x4 M Q
def f_X7_unseen_b4 (N : Nat) (k4 : Int32 → Int32 → zMem → Prop) (x1 : Int32) (x2 : Int32) (M : zMem) (Q : Int32 → zMem → Prop) : Prop :=
  (((M.1 0 2) ≤ x2 → Q x1 M) ∧ (¬ (M.1 0 2) ≤ x2 → f_X7_unseen_l17 N k4 x1 x2 Q N (1 : Int32) (0 : Int32) M))
def f_X7_unseen_l4 (N : Nat)  (Q : Int32 → zMem → Prop) : Nat → Int32 → Int32 → zMem → Prop
  | 0 => fun _ _ _ => False
  | n + 1 => fun x1 x2 M => f_X7_unseen_b4 N  (f_X7_unseen_l4 N  Q n)  x1 x2 M Q
def f_X7_unseen (N : Nat)  (M : zMem) (Q : Int32 → zMem → Prop) : Prop :=
  f_X7_unseen_l4 N  Q N (0 : Int32) (0 : Int32) M
def f_X7_isImage (N : Nat) (x0 : Int32) (M : zMem) (Q : Int32 → zMem → Prop) : Prop :=
  ((x0 < 0 → Q (0 : Int32) M) ∧ (¬ x0 < 0 → (((2 : Int32) ≤ x0 → Q (0 : Int32) M) ∧ (¬ (2 : Int32) ≤ x0 → Q (1 : Int32) M))))
def f_X7_keep_b21 (N : Nat) (k21 : Int32 → zMem → Prop) (x1 : Int32) (x2 : Int32) (M : zMem) (Q : Int32 → zMem → Prop) : Prop :=
  (((M.1 0 2) ≤ x2 → Q (M.1 0 2) M) ∧ (¬ (M.1 0 2) ≤ x2 → (vp_in x2 4 ∧  (f_X2_place N x1 x2 M (fun (r5 : Int32) (M6 : zMem) =>  (¬ (0 : Int32) < 0 ∧ ¬ r5 < 0 ∧ ¬ (8 : Int32) < 0 ∧ (0 : Int32).toNatClampNeg + (8 : Int32).toNatClampNeg ≤ 8 ∧ r5.toNatClampNeg + (8 : Int32).toNatClampNeg ≤ 64 ∧  (∀ M7 : zMem, M7 = zcp M6 ((5 + 6 * x2.toNatClampNeg) + 1) 34 (0 : Int32).toNatClampNeg r5.toNatClampNeg (8 : Int32).toNatClampNeg →  (∀ v8 : Int32, v8 = x2 + (1 : Int32) → k21 v8 M7))))))))
def f_X7_keep_l21 (N : Nat) (x1 : Int32) (Q : Int32 → zMem → Prop) : Nat → Int32 → zMem → Prop
  | 0 => fun _ _ => False
  | n + 1 => fun x2 M => f_X7_keep_b21 N  (f_X7_keep_l21 N x1 Q n) x1 x2 M Q
def f_X7_keep (N : Nat) (x1 : Int32) (M : zMem) (Q : Int32 → zMem → Prop) : Prop :=
  (f_X7_isImage N x1 M (fun (r1 : Int32) (M2 : zMem) => ((¬ r1 = 0 → (vp_in x1 2 ∧  (∀ M3 : zMem, M3 = zst M2 33 x1 (vp_nar .boolean (1 : Int32)) → f_X7_keep_l21 N x1 Q N (0 : Int32) M3))) ∧ (r1 = 0 → Q (-1 : Int32) M2))))
def f_X7_back_b26 (N : Nat) (k26 : Int32 → zMem → Prop) (x1 : Int32) (x2 : Int32) (M : zMem) (Q : Int32 → zMem → Prop) : Prop :=
  (((M.1 0 2) ≤ x2 → (∀ M3 : zMem, M3 = zwI M 29 2 (0 : Int32) →  (f_X3_outdate N  M3 (fun (M5 : zMem) => Q (M5.1 0 2) M5)))) ∧ (¬ (M.1 0 2) ≤ x2 → (vp_in x2 4 ∧  (f_X2_place N x1 x2 M (fun (r7 : Int32) (M8 : zMem) =>  (f_X0_takes N (5 + 6 * x2.toNatClampNeg) 34 r7 M8 (fun (M10 : zMem) =>  (∀ v11 : Int32, v11 = x2 + (1 : Int32) → k26 v11 M10))))))))
def f_X7_back_l26 (N : Nat) (x1 : Int32) (Q : Int32 → zMem → Prop) : Nat → Int32 → zMem → Prop
  | 0 => fun _ _ => False
  | n + 1 => fun x2 M => f_X7_back_b26 N  (f_X7_back_l26 N x1 Q n) x1 x2 M Q
def f_X7_back (N : Nat) (x1 : Int32) (M : zMem) (Q : Int32 → zMem → Prop) : Prop :=
  (f_X7_isImage N x1 M (fun (r1 : Int32) (M2 : zMem) => ((¬ r1 = 0 → (vp_in x1 2 ∧ ((¬ (zrd M2 33 x1) = 0 → f_X7_back_l26 N x1 Q N (0 : Int32) M2) ∧ ((zrd M2 33 x1) = 0 → Q (-2 : Int32) M2)))) ∧ (r1 = 0 → Q (-1 : Int32) M2))))
def f_X7_count (N : Nat) (x1 : Int32) (M : zMem) (Q : Int32 → zMem → Prop) : Prop :=
  ((x1 = (0 : Int32) → Q (M.1 0 2) M) ∧ (x1 = (1 : Int32) → Q (M.1 35 2) M) ∧ (x1 = (2 : Int32) → Q (M.1 1 1) M) ∧ (x1 = (3 : Int32) → Q (M.1 29 2) M) ∧ (x1.toInt < 0 ∨ (3 : Int) < x1.toInt → Q (-1 : Int32) M))
def f_X8_in (N : Nat) (x0 : Int32) (x1 : Int32) (x2 : Int32) (M : zMem) (Q : Int32 → zMem → Prop) : Prop :=
  ((x0 < x1 → Q (0 : Int32) M) ∧ (¬ x0 < x1 → ((x2 < x0 → Q (0 : Int32) M) ∧ (¬ x2 < x0 → Q (1 : Int32) M))))
def f_X8_isArc (N : Nat) (x1 : Int32) (M : zMem) (Q : Int32 → zMem → Prop) : Prop :=
  (f_X8_in N x1 (0 : Int32) ((M.1 47 1) - (1 : Int32)) M (fun (r1 : Int32) (M2 : zMem) => (zb r1 ∧ Q r1 M2)))
def f_X8_isNode (N : Nat) (x0 : Int32) (M : zMem) (Q : Int32 → zMem → Prop) : Prop :=
  (f_X8_in N x0 (1 : Int32) (63 : Int32) M (fun (r1 : Int32) (M2 : zMem) => (zb r1 ∧ Q r1 M2)))
def f_X8_type (N : Nat) (x1 : Int32) (M : zMem) (Q : Int32 → zMem → Prop) : Prop :=
  (∀ M1 : zMem, M1 = zwI M 47 0 (0 : Int32) →  (f_X8_in N x1 (0 : Int32) (255 : Int32) M1 (fun (r2 : Int32) (M3 : zMem) => ((¬ r2 = 0 → ((¬ (M3.1 47 12) = (130 : Int32) → (vp_in (M3.1 47 12) 130 ∧  (∀ M4 : zMem, M4 = zst M3 55 (M3.1 47 12) x1 →  (∀ M5 : zMem, M5 = zwI M4 47 12 ((M4.1 47 12) + (1 : Int32)) → Q (M5.1 47 12) M5)))) ∧ ((M3.1 47 12) = (130 : Int32) → Q (-3 : Int32) M3))) ∧ (r2 = 0 → Q (-1 : Int32) M3)))))
def f_X8_clear (N : Nat)  (M : zMem) (Q : Int32 → zMem → Prop) : Prop :=
  (∀ M1 : zMem, M1 = zwI M 47 0 (0 : Int32) →  (∀ v2 : Int32, v2 = M1.1 47 12 →  (∀ M3 : zMem, M3 = zwI M1 47 12 (0 : Int32) → Q v2 M3)))
def f_X8_isFigure (N : Nat) (x1 : Int32) (M : zMem) (Q : Int32 → zMem → Prop) : Prop :=
  (((M.1 47 12) ≤ x1 → Q (0 : Int32) M) ∧ (¬ (M.1 47 12) ≤ x1 → (vp_in x1 130 ∧  (f_X8_in N (zrd M 55 x1) (48 : Int32) (57 : Int32) M (fun (r1 : Int32) (M2 : zMem) => ((r1 = 0 → Q (0 : Int32) M2) ∧ (¬ r1 = 0 → Q (1 : Int32) M2)))))))
def f_X8_takes_b171 (N : Nat) (s1 : Int32) (M : zMem) (Q : zMem → Prop) : Prop :=
  (∀ M7 : zMem, M7 = zwI M 47 16 s1 → Q M7)
def f_X8_takes_b111 (N : Nat) (k111 : zMem → Prop) (M : zMem) (Q : zMem → Prop) : Prop :=
  (f_X8_isFigure N (M.1 47 14) M (fun (r5 : Int32) (M6 : zMem) => ((r5 = 0 → (((M6.1 47 14) ≤ ((M6.1 47 15) + (1 : Int32)) → (vp_in (M6.1 47 15) 130 ∧ f_X8_takes_b171 N (((1000 : Int32) + (zrd M6 55 (M6.1 47 15))) - (48 : Int32)) M6 Q)) ∧ (¬ (M6.1 47 14) ≤ ((M6.1 47 15) + (1 : Int32)) → f_X8_takes_b171 N (2000 : Int32) M6 Q))) ∧ (¬ r5 = 0 → (∀ M8 : zMem, M8 = zwI M6 47 14 ((M6.1 47 14) + (1 : Int32)) → k111  M8)))))
def f_X8_takes_l111 (N : Nat)  (Q : zMem → Prop) : Nat → zMem → Prop
  | 0 => fun _ => False
  | n + 1 => fun  M => f_X8_takes_b111 N  (f_X8_takes_l111 N  Q n)   M Q
def f_X8_takes_b106 (N : Nat) (s1 : Int32) (s2 : Int32) (M : zMem) (Q : zMem → Prop) : Prop :=
  (∀ M9 : zMem, M9 = zwI M 47 14 (s1 + s2) → Q M9)
def f_X8_takes_b71 (N : Nat) (s1 : Int32) (M : zMem) (Q : zMem → Prop) : Prop :=
  (∀ M2 : zMem, M2 = zwI M 47 16 s1 →  (f_X8_isFigure N (M2.1 47 14) M2 (fun (r3 : Int32) (M4 : zMem) => ((¬ r3 = 0 → f_X8_takes_l111 N  Q N  M4) ∧ (r3 = 0 → (((M4.1 47 12) ≤ (M4.1 47 14) → f_X8_takes_b106 N (M4.1 47 14) (0 : Int32) M4 Q) ∧ (¬ (M4.1 47 12) ≤ (M4.1 47 14) → f_X8_takes_b106 N (M4.1 47 14) (1 : Int32) M4 Q)))))))
def f_X8_takes_b38 (N : Nat)  (M : zMem) (Q : zMem → Prop) : Prop :=
  (∀ M1 : zMem, M1 = zwI M 47 15 (M.1 47 14) → (((M1.1 47 12) ≤ (M1.1 47 14) → f_X8_takes_b71 N (-1 : Int32) M1 Q) ∧ (¬ (M1.1 47 12) ≤ (M1.1 47 14) → (vp_in (M1.1 47 14) 130 ∧ f_X8_takes_b71 N (zrd M1 55 (M1.1 47 14)) M1 Q))))
def f_X8_takes_b0 (N : Nat) (k0 : zMem → Prop) (M : zMem) (Q : zMem → Prop) : Prop :=
  (((M.1 47 12) ≤ (M.1 47 14) → f_X8_takes_b38 N  M Q) ∧ (¬ (M.1 47 12) ≤ (M.1 47 14) → (vp_in (M.1 47 14) 130 ∧ ((¬ (zrd M 55 (M.1 47 14)) = (32 : Int32) → f_X8_takes_b38 N  M Q) ∧ ((zrd M 55 (M.1 47 14)) = (32 : Int32) → (∀ M10 : zMem, M10 = zwI M 47 14 ((M.1 47 14) + (1 : Int32)) → k0  M10))))))
def f_X8_takes_l0 (N : Nat)  (Q : zMem → Prop) : Nat → zMem → Prop
  | 0 => fun _ => False
  | n + 1 => fun  M => f_X8_takes_b0 N  (f_X8_takes_l0 N  Q n)   M Q
def f_X8_takes (N : Nat)  (M : zMem) (Q : zMem → Prop) : Prop :=
  f_X8_takes_l0 N  Q N  M
def f_X8_readsArc_b99 (N : Nat) (k12 : Int32 → zMem → Prop) (x1 : Int32) (s1 : Int32) (s2 : Int32) (M : zMem) (Q : Int32 → zMem → Prop) : Prop :=
  (vp_in s1 32 ∧  (∀ M6 : zMem, M6 = zst M 56 s1 s2 →  (∀ v7 : Int32, v7 = x1 + (1 : Int32) → k12 v7 M6)))
def f_X8_readsArc_b45 (N : Nat) (k12 : Int32 → zMem → Prop) (x1 : Int32) (x2 : Int32) (M : zMem) (Q : Int32 → zMem → Prop) : Prop :=
  (f_X8_in N (M.1 47 16) (1000 : Int32) (1009 : Int32) M (fun (r4 : Int32) (M5 : zMem) => ((¬ r4 = 0 → ((x2 = 0 → f_X8_readsArc_b99 N k12 x1 (((8 : Int32) * (M5.1 47 18)) + x1) ((M5.1 47 16) - (1000 : Int32)) M5 Q) ∧ (¬ x2 = 0 → f_X8_readsArc_b99 N k12 x1 (((8 : Int32) * (M5.1 47 18)) + x1) ((1000 : Int32) - (M5.1 47 16)) M5 Q))) ∧ (r4 = 0 → Q (0 : Int32) M5))))
def f_X8_readsArc_b36 (N : Nat) (k12 : Int32 → zMem → Prop) (x1 : Int32) (s0 : Int32) (M : zMem) (Q : Int32 → zMem → Prop) : Prop :=
  ((s0 = 0 → f_X8_readsArc_b45 N k12 x1 s0 M Q) ∧ (¬ s0 = 0 → (f_X8_takes N  M (fun (M9 : zMem) => f_X8_readsArc_b45 N k12 x1 s0 M9 Q))))
def f_X8_readsArc_b12 (N : Nat) (k12 : Int32 → zMem → Prop) (x1 : Int32) (M : zMem) (Q : Int32 → zMem → Prop) : Prop :=
  (((8 : Int32) ≤ x1 → (∀ M1 : zMem, M1 = zwI M 47 18 ((M.1 47 18) + (1 : Int32)) → Q (1 : Int32) M1)) ∧ (¬ (8 : Int32) ≤ x1 → (f_X8_takes N  M (fun (M3 : zMem) => ((¬ (M3.1 47 16) = (45 : Int32) → f_X8_readsArc_b36 N k12 x1 (0 : Int32) M3 Q) ∧ ((M3.1 47 16) = (45 : Int32) → f_X8_readsArc_b36 N k12 x1 (1 : Int32) M3 Q))))))
def f_X8_readsArc_l12 (N : Nat)  (Q : Int32 → zMem → Prop) : Nat → Int32 → zMem → Prop
  | 0 => fun _ _ => False
  | n + 1 => fun x1 M => f_X8_readsArc_b12 N  (f_X8_readsArc_l12 N  Q n)  x1 M Q
def f_X8_readsArc (N : Nat)  (M : zMem) (Q : Int32 → zMem → Prop) : Prop :=
  ((¬ (M.1 47 18) = (4 : Int32) → f_X8_readsArc_l12 N  Q N (0 : Int32) M) ∧ ((M.1 47 18) = (4 : Int32) → Q (0 : Int32) M))
def f_X8_arcs_b87 (N : Nat) (k87 : Int32 → zMem → Prop) (x1 : Int32) (M : zMem) (Q : Int32 → zMem → Prop) : Prop :=
  (((32 : Int32) ≤ x1 → (∀ M6 : zMem, M6 = zwI M 47 1 (M.1 47 18) →  (∀ M7 : zMem, M7 = zwI M6 47 11 (0 : Int32) →  (∀ M8 : zMem, M8 = zwI M7 47 4 (0 : Int32) →  (∀ M9 : zMem, M9 = zwI M8 47 7 (0 : Int32) →  (vp_in (0 : Int32) 2 ∧  (∀ M10 : zMem, M10 = zst M9 51 (0 : Int32) (vp_nar .boolean (0 : Int32)) →  (vp_in (1 : Int32) 2 ∧  (∀ M11 : zMem, M11 = zst M10 51 (1 : Int32) (vp_nar .boolean (0 : Int32)) →  (∀ M12 : zMem, M12 = zwI M11 47 12 (0 : Int32) → Q (M12.1 47 1) M12)))))))))) ∧ (¬ (32 : Int32) ≤ x1 → (vp_in x1 32 ∧  (vp_in x1 32 ∧  (∀ M13 : zMem, M13 = zst M 48 x1 (zrd M 56 x1) →  (∀ v14 : Int32, v14 = x1 + (1 : Int32) → k87 v14 M13))))))
def f_X8_arcs_l87 (N : Nat)  (Q : Int32 → zMem → Prop) : Nat → Int32 → zMem → Prop
  | 0 => fun _ _ => False
  | n + 1 => fun x1 M => f_X8_arcs_b87 N  (f_X8_arcs_l87 N  Q n)  x1 M Q
def f_X8_arcs_b70 (N : Nat)  (M : zMem) (Q : Int32 → zMem → Prop) : Prop :=
  Q ((-10 : Int32) - (M.1 47 15)) M
def f_X8_arcs_b57 (N : Nat) (k19 : zMem → Prop) (x1 : Int32) (M : zMem) (Q : Int32 → zMem → Prop) : Prop :=
  ((x1 = 0 → f_X8_arcs_b70 N  M Q) ∧ (¬ x1 = 0 → (((M.1 47 16) = (59 : Int32) → (f_X8_takes N  M (fun (M16 : zMem) => k19  M16))) ∧ (¬ (M.1 47 16) = (59 : Int32) → f_X8_arcs_b70 N  M Q))))
def f_X8_arcs_b48 (N : Nat) (k19 : zMem → Prop) (s0 : Int32) (M : zMem) (Q : Int32 → zMem → Prop) : Prop :=
  ((s0 = 0 → f_X8_arcs_b57 N k19 s0 M Q) ∧ (¬ s0 = 0 → (f_X8_takes N  M (fun (M18 : zMem) => f_X8_arcs_b57 N k19 s0 M18 Q))))
def f_X8_arcs_b47 (N : Nat) (k19 : zMem → Prop) (M : zMem) (Q : Int32 → zMem → Prop) : Prop :=
  f_X8_arcs_b48 N k19 (0 : Int32) M Q
def f_X8_arcs_b19 (N : Nat) (k19 : zMem → Prop) (M : zMem) (Q : Int32 → zMem → Prop) : Prop :=
  (((M.1 47 16) = (-1 : Int32) → f_X8_arcs_l87 N  Q N (0 : Int32) M) ∧ (¬ (M.1 47 16) = (-1 : Int32) → ((¬ (M.1 47 16) = (97 : Int32) → f_X8_arcs_b47 N k19 M Q) ∧ ((M.1 47 16) = (97 : Int32) → (f_X8_readsArc N  M (fun (r19 : Int32) (M20 : zMem) => ((r19 = 0 → f_X8_arcs_b47 N k19 M20 Q) ∧ (¬ r19 = 0 → f_X8_arcs_b48 N k19 (1 : Int32) M20 Q))))))))
def f_X8_arcs_l19 (N : Nat)  (Q : Int32 → zMem → Prop) : Nat → zMem → Prop
  | 0 => fun _ => False
  | n + 1 => fun  M => f_X8_arcs_b19 N  (f_X8_arcs_l19 N  Q n)   M Q
def f_X8_arcs (N : Nat)  (M : zMem) (Q : Int32 → zMem → Prop) : Prop :=
  (∀ M1 : zMem, M1 = zwI M 47 0 (0 : Int32) →  (∀ M2 : zMem, M2 = zwI M1 47 18 (0 : Int32) →  (∀ M3 : zMem, M3 = zwI M2 47 14 (0 : Int32) →  (f_X8_takes N  M3 (fun (M5 : zMem) => f_X8_arcs_l19 N  Q N  M5)))))
def f_X8_placeOf (N : Nat) (x1 : Int32) (x2 : Int32) (x3 : Int32) (x4 : Int32) (x5 : Int32) (M : zMem) (Q : Int32 → zMem → Prop) : Prop :=
  (∀ v1 : Int32, v1 = (32 : Int32) - x3 →  (∀ v2 : Int32, v2 = (32 : Int32) - x4 →  (∀ v3 : Int32, v3 = (32 : Int32) - x5 →  (∀ v4 : Int32, v4 = ((8 : Int32) * x1) + x2 →  (vp_in v4 32 ∧  (vp_in (v4 + (2 : Int32)) 32 ∧  (vp_in (v4 + (4 : Int32)) 32 ∧  (vp_in (v4 + (6 : Int32)) 32 ∧ Q (((((((zrd M 48 v4) * v1) * v2) * v3) + ((zrd M 48 (v4 + (2 : Int32))) * ((((x3 * v2) * v3) + ((v1 * x4) * v3)) + ((v1 * v2) * x5)))) + ((zrd M 48 (v4 + (4 : Int32))) * ((((x3 * x4) * v3) + ((x3 * v2) * x5)) + ((v1 * x4) * x5)))) + ((((zrd M 48 (v4 + (6 : Int32))) * x3) * x4) * x5)) M))))))))
def f_X8_depth_b2 (N : Nat) (k2 : Int32 → zMem → Prop) (x0 : Int32) (x1 : Int32) (M : zMem) (Q : Int32 → zMem → Prop) : Prop :=
  (((x0 >>> ((x1 + (1 : Int32)) &&& 31)) ≤ 0 → Q x1 M) ∧ (¬ (x0 >>> ((x1 + (1 : Int32)) &&& 31)) ≤ 0 → (∀ v1 : Int32, v1 = x1 + (1 : Int32) → k2 v1 M)))
def f_X8_depth_l2 (N : Nat) (x0 : Int32) (Q : Int32 → zMem → Prop) : Nat → Int32 → zMem → Prop
  | 0 => fun _ _ => False
  | n + 1 => fun x1 M => f_X8_depth_b2 N  (f_X8_depth_l2 N x0 Q n) x0 x1 M Q
def f_X8_depth (N : Nat) (x0 : Int32) (M : zMem) (Q : Int32 → zMem → Prop) : Prop :=
  f_X8_depth_l2 N x0 Q N (0 : Int32) M
def f_X8_from (N : Nat) (x0 : Int32) (M : zMem) (Q : Int32 → zMem → Prop) : Prop :=
  (f_X8_depth N x0 M (fun (r1 : Int32) (M2 : zMem) => Q ((x0 - ((1 : Int32) <<< (r1 &&& 31))) <<< (((5 : Int32) - r1) &&& 31)) M2))
def f_X8_to (N : Nat) (x0 : Int32) (M : zMem) (Q : Int32 → zMem → Prop) : Prop :=
  (f_X8_from N x0 M (fun (r1 : Int32) (M2 : zMem) =>  (f_X8_depth N x0 M2 (fun (r3 : Int32) (M4 : zMem) => Q (r1 + ((1 : Int32) <<< (((5 : Int32) - r3) &&& 31))) M4))))
def f_X8_lays_b117 (N : Nat) (k15 : Int32 → zMem → Prop) (x1 : Int32) (M : zMem) (Q : zMem → Prop) : Prop :=
  (∀ v4 : Int32, v4 = x1 + (1 : Int32) → k15 v4 M)
def f_X8_lays_b113 (N : Nat) (k15 : Int32 → zMem → Prop) (x1 : Int32) (s1 : Int32) (s3 : Int32) (s4 : Int32) (s5 : Int32) (s6 : Int32) (s7 : Int32) (M : zMem) (Q : zMem → Prop) : Prop :=
  (f_X8_placeOf N s3 s4 s5 s6 s7 M (fun (r10 : Int32) (M11 : zMem) =>  (vp_in s1 2048 ∧  (∀ M12 : zMem, M12 = zst M11 54 s1 r10 → f_X8_lays_b117 N k15 x1 M12 Q))))
def f_X8_lays_b100 (N : Nat) (k15 : Int32 → zMem → Prop) (x1 : Int32) (x4 : Int32) (x5 : Int32) (x6 : Int32) (s1 : Int32) (s3 : Int32) (s4 : Int32) (s5 : Int32) (s6 : Int32) (M : zMem) (Q : zMem → Prop) : Prop :=
  ((x4 ≤ (2 : Int32) → f_X8_lays_b113 N k15 x1 s1 s3 s4 s5 s6 x5 M Q) ∧ (¬ x4 ≤ (2 : Int32) → f_X8_lays_b113 N k15 x1 s1 s3 s4 s5 s6 x6 M Q))
def f_X8_lays_b87 (N : Nat) (k15 : Int32 → zMem → Prop) (x1 : Int32) (x4 : Int32) (x5 : Int32) (x6 : Int32) (s1 : Int32) (s3 : Int32) (s4 : Int32) (s5 : Int32) (M : zMem) (Q : zMem → Prop) : Prop :=
  ((x4 ≤ (1 : Int32) → f_X8_lays_b100 N k15 x1 x4 x5 x6 s1 s3 s4 s5 x5 M Q) ∧ (¬ x4 ≤ (1 : Int32) → f_X8_lays_b100 N k15 x1 x4 x5 x6 s1 s3 s4 s5 x6 M Q))
def f_X8_lays_b15 (N : Nat) (k15 : Int32 → zMem → Prop) (x1 : Int32) (M : zMem) (Q : zMem → Prop) : Prop :=
  ((((512 : Int32) * (M.1 47 1)) ≤ x1 → Q M) ∧ (¬ ((512 : Int32) * (M.1 47 1)) ≤ x1 → (∀ v2 : Int32, v2 = x1 / (512 : Int32) →  (∀ v3 : Int32, v3 = (x1 / (8 : Int32)) - (x1 / (8 : Int32)) / (64 : Int32) * (64 : Int32) → ((v3 ≤ 0 → f_X8_lays_b117 N k15 x1 M Q) ∧ (¬ v3 ≤ 0 → (∀ v5 : Int32, v5 = (x1 - x1 / (8 : Int32) * (8 : Int32)) / (2 : Int32) →  (f_X8_from N v3 M (fun (r6 : Int32) (M7 : zMem) =>  (f_X8_to N v3 M7 (fun (r8 : Int32) (M9 : zMem) => ((v5 ≤ 0 → f_X8_lays_b87 N k15 x1 v5 r6 r8 x1 v2 (x1 - x1 / (2 : Int32) * (2 : Int32)) r6 M9 Q) ∧ (¬ v5 ≤ 0 → f_X8_lays_b87 N k15 x1 v5 r6 r8 x1 v2 (x1 - x1 / (2 : Int32) * (2 : Int32)) r8 M9 Q)))))))))))))
def f_X8_lays_l15 (N : Nat)  (Q : zMem → Prop) : Nat → Int32 → zMem → Prop
  | 0 => fun _ _ => False
  | n + 1 => fun x1 M => f_X8_lays_b15 N  (f_X8_lays_l15 N  Q n)  x1 M Q
def f_X8_lays (N : Nat)  (M : zMem) (Q : zMem → Prop) : Prop :=
  (((M.1 47 11) = 0 → (∀ M1 : zMem, M1 = zwI M 47 11 (1 : Int32) → f_X8_lays_l15 N  Q N (0 : Int32) M1)) ∧ (¬ (M.1 47 11) = 0 → Q M))
def f_X8_at (N : Nat) (x1 : Int32) (x2 : Int32) (x3 : Int32) (x4 : Int32) (M : zMem) (Q : Int32 → zMem → Prop) : Prop :=
  (vp_in ((((8 : Int32) * (((64 : Int32) * x1) + x2)) + ((2 : Int32) * x3)) + x4) 2048 ∧ Q (zrd M 54 ((((8 : Int32) * (((64 : Int32) * x1) + x2)) + ((2 : Int32) * x3)) + x4)) M)
def f_X8_stepOf (N : Nat) (x1 : Int32) (x2 : Int32) (x3 : Int32) (x4 : Int32) (M : zMem) (Q : Int32 → zMem → Prop) : Prop :=
  (f_X8_at N x1 x2 (x3 + (1 : Int32)) x4 M (fun (r1 : Int32) (M2 : zMem) =>  (f_X8_at N x1 x2 x3 x4 M2 (fun (r3 : Int32) (M4 : zMem) => Q (r1 - r3) M4))))
def f_X8_cross (N : Nat) (x0 : Int64) (x2 : Int64) (x4 : Int64) (x6 : Int64) (M : zMem) (Q : Int64 → zMem → Prop) : Prop :=
  Q ((x0 * x6) - (x2 * x4)) M
def f_X8_side (N : Nat) (x1 : Int32) (x2 : Int32) (x3 : Int32) (x4 : Int32) (x5 : Int32) (M : zMem) (Q : Int64 → zMem → Prop) : Prop :=
  (f_X8_at N x1 x2 (0 : Int32) (0 : Int32) M (fun (r1 : Int32) (M2 : zMem) =>  (∀ v3 : Int64, v3 = r1.toInt64 →  (f_X8_at N x1 x2 (0 : Int32) (1 : Int32) M2 (fun (r4 : Int32) (M5 : zMem) =>  (∀ v6 : Int64, v6 = r4.toInt64 →  (f_X8_at N x1 x2 (3 : Int32) (0 : Int32) M5 (fun (r7 : Int32) (M8 : zMem) =>  (f_X8_at N x1 x2 (3 : Int32) (1 : Int32) M8 (fun (r9 : Int32) (M10 : zMem) =>  (f_X8_at N x3 x4 x5 (0 : Int32) M10 (fun (r11 : Int32) (M12 : zMem) =>  (f_X8_at N x3 x4 x5 (1 : Int32) M12 (fun (r13 : Int32) (M14 : zMem) =>  (f_X8_cross N ((r7.toInt64) - v3) ((r9.toInt64) - v6) ((r11.toInt64) - v3) ((r13.toInt64) - v6) M14 (fun (r15 : Int64) (M16 : zMem) => Q r15 M16))))))))))))))))
def f_X8_bandLow_b36 (N : Nat) (k5 : Int64 → Int32 → zMem → Prop) (x1 : Int32) (x2 : Int32) (x5 : Int32) (s0 : Int64) (M : zMem) (Q : Int64 → zMem → Prop) : Prop :=
  (∀ v3 : Int32, v3 = x5 + (1 : Int32) → k5 s0 v3 M)
def f_X8_bandLow_b5 (N : Nat) (k5 : Int64 → Int32 → zMem → Prop) (x1 : Int32) (x2 : Int32) (x3 : Int64) (x5 : Int32) (M : zMem) (Q : Int64 → zMem → Prop) : Prop :=
  (((3 : Int32) ≤ x5 → Q x3 M) ∧ (¬ (3 : Int32) ≤ x5 → (f_X8_side N x1 x2 x1 x2 x5 M (fun (r1 : Int64) (M2 : zMem) => ((x3 ≤ r1 → f_X8_bandLow_b36 N k5 x1 x2 x5 x3 M2 Q) ∧ (¬ x3 ≤ r1 → f_X8_bandLow_b36 N k5 x1 x2 x5 r1 M2 Q))))))
def f_X8_bandLow_l5 (N : Nat) (x1 : Int32) (x2 : Int32) (Q : Int64 → zMem → Prop) : Nat → Int64 → Int32 → zMem → Prop
  | 0 => fun _ _ _ => False
  | n + 1 => fun x3 x5 M => f_X8_bandLow_b5 N  (f_X8_bandLow_l5 N x1 x2 Q n) x1 x2 x3 x5 M Q
def f_X8_bandLow (N : Nat) (x1 : Int32) (x2 : Int32) (M : zMem) (Q : Int64 → zMem → Prop) : Prop :=
  f_X8_bandLow_l5 N x1 x2 Q N (0 : Int64) (1 : Int32) M
def f_X8_bandHigh_b36 (N : Nat) (k5 : Int64 → Int32 → zMem → Prop) (x1 : Int32) (x2 : Int32) (x5 : Int32) (s0 : Int64) (M : zMem) (Q : Int64 → zMem → Prop) : Prop :=
  (∀ v3 : Int32, v3 = x5 + (1 : Int32) → k5 s0 v3 M)
def f_X8_bandHigh_b5 (N : Nat) (k5 : Int64 → Int32 → zMem → Prop) (x1 : Int32) (x2 : Int32) (x3 : Int64) (x5 : Int32) (M : zMem) (Q : Int64 → zMem → Prop) : Prop :=
  (((3 : Int32) ≤ x5 → Q x3 M) ∧ (¬ (3 : Int32) ≤ x5 → (f_X8_side N x1 x2 x1 x2 x5 M (fun (r1 : Int64) (M2 : zMem) => ((r1 ≤ x3 → f_X8_bandHigh_b36 N k5 x1 x2 x5 x3 M2 Q) ∧ (¬ r1 ≤ x3 → f_X8_bandHigh_b36 N k5 x1 x2 x5 r1 M2 Q))))))
def f_X8_bandHigh_l5 (N : Nat) (x1 : Int32) (x2 : Int32) (Q : Int64 → zMem → Prop) : Nat → Int64 → Int32 → zMem → Prop
  | 0 => fun _ _ _ => False
  | n + 1 => fun x3 x5 M => f_X8_bandHigh_b5 N  (f_X8_bandHigh_l5 N x1 x2 Q n) x1 x2 x3 x5 M Q
def f_X8_bandHigh (N : Nat) (x1 : Int32) (x2 : Int32) (M : zMem) (Q : Int64 → zMem → Prop) : Prop :=
  f_X8_bandHigh_l5 N x1 x2 Q N (0 : Int64) (1 : Int32) M
def f_X8_beyond_b72 (N : Nat) (k22 : Int32 → Int32 → zMem → Prop) (x1 : Int32) (x2 : Int32) (x3 : Int32) (x4 : Int32) (x5 : Int32) (x6 : Int32) (x7 : Int64) (x9 : Int64) (x12 : Int32) (s0 : Int32) (s1 : Int32) (M : zMem) (Q : Int32 → zMem → Prop) : Prop :=
  (∀ v7 : Int32, v7 = s0 + s1 →  (∀ v8 : Int32, v8 = x12 + x6 → k22 v7 v8 M))
def f_X8_beyond_b71 (N : Nat) (k22 : Int32 → Int32 → zMem → Prop) (x1 : Int32) (x2 : Int32) (x3 : Int32) (x4 : Int32) (x5 : Int32) (x6 : Int32) (x7 : Int64) (x9 : Int64) (x12 : Int32) (s0 : Int32) (M : zMem) (Q : Int32 → zMem → Prop) : Prop :=
  f_X8_beyond_b72 N k22 x1 x2 x3 x4 x5 x6 x7 x9 x12 s0 (0 : Int32) M Q
def f_X8_beyond_b67 (N : Nat) (k22 : Int32 → Int32 → zMem → Prop) (x1 : Int32) (x2 : Int32) (x3 : Int32) (x4 : Int32) (x5 : Int32) (x6 : Int32) (x7 : Int64) (x9 : Int64) (x12 : Int32) (s0 : Int32) (M : zMem) (Q : Int32 → zMem → Prop) : Prop :=
  f_X8_beyond_b72 N k22 x1 x2 x3 x4 x5 x6 x7 x9 x12 s0 (1 : Int32) M Q
def f_X8_beyond_b22 (N : Nat) (k22 : Int32 → Int32 → zMem → Prop) (x1 : Int32) (x2 : Int32) (x3 : Int32) (x4 : Int32) (x5 : Int32) (x6 : Int32) (x7 : Int64) (x9 : Int64) (x11 : Int32) (x12 : Int32) (M : zMem) (Q : Int32 → zMem → Prop) : Prop :=
  (((4 : Int32) ≤ x12 → Q x11 M) ∧ (¬ (4 : Int32) ≤ x12 → (f_X8_side N x1 x2 x3 x4 x12 M (fun (r5 : Int64) (M6 : zMem) => ((x5 = 0 → ((x7 ≤ r5 → f_X8_beyond_b71 N k22 x1 x2 x3 x4 x5 x6 x7 x9 x12 x11 M6 Q) ∧ (¬ x7 ≤ r5 → f_X8_beyond_b67 N k22 x1 x2 x3 x4 x5 x6 x7 x9 x12 x11 M6 Q))) ∧ (¬ x5 = 0 → ((r5 ≤ x9 → f_X8_beyond_b71 N k22 x1 x2 x3 x4 x5 x6 x7 x9 x12 x11 M6 Q) ∧ (¬ r5 ≤ x9 → f_X8_beyond_b67 N k22 x1 x2 x3 x4 x5 x6 x7 x9 x12 x11 M6 Q))))))))
def f_X8_beyond_l22 (N : Nat) (x1 : Int32) (x2 : Int32) (x3 : Int32) (x4 : Int32) (x5 : Int32) (x6 : Int32) (x7 : Int64) (x9 : Int64) (Q : Int32 → zMem → Prop) : Nat → Int32 → Int32 → zMem → Prop
  | 0 => fun _ _ _ => False
  | n + 1 => fun x11 x12 M => f_X8_beyond_b22 N  (f_X8_beyond_l22 N x1 x2 x3 x4 x5 x6 x7 x9 Q n) x1 x2 x3 x4 x5 x6 x7 x9 x11 x12 M Q
def f_X8_beyond (N : Nat) (x1 : Int32) (x2 : Int32) (x3 : Int32) (x4 : Int32) (x5 : Int32) (x6 : Int32) (M : zMem) (Q : Int32 → zMem → Prop) : Prop :=
  (f_X8_bandLow N x1 x2 M (fun (r1 : Int64) (M2 : zMem) =>  (f_X8_bandHigh N x1 x2 M2 (fun (r3 : Int64) (M4 : zMem) => f_X8_beyond_l22 N x1 x2 x3 x4 x5 x6 r1 r3 Q N (0 : Int32) (0 : Int32) M4))))
def f_X8_clears (N : Nat) (x1 : Int32) (x2 : Int32) (x3 : Int32) (x4 : Int32) (M : zMem) (Q : Int32 → zMem → Prop) : Prop :=
  (f_X8_beyond N x1 x2 x3 x4 (1 : Int32) (1 : Int32) M (fun (r1 : Int32) (M2 : zMem) => ((r1 = (4 : Int32) → Q (1 : Int32) M2) ∧ (¬ r1 = (4 : Int32) → (f_X8_beyond N x1 x2 x3 x4 (0 : Int32) (1 : Int32) M2 (fun (r3 : Int32) (M4 : zMem) => ((¬ r3 = (4 : Int32) → Q (0 : Int32) M4) ∧ (r3 = (4 : Int32) → Q (1 : Int32) M4))))))))
def f_X8_extreme_b59 (N : Nat) (k13 : Int32 → Int32 → zMem → Prop) (x1 : Int32) (x2 : Int32) (x3 : Int32) (x4 : Int32) (x6 : Int32) (s0 : Int32) (M : zMem) (Q : Int32 → zMem → Prop) : Prop :=
  (∀ v5 : Int32, v5 = x6 + (1 : Int32) → k13 s0 v5 M)
def f_X8_extreme_b57 (N : Nat) (k13 : Int32 → Int32 → zMem → Prop) (x1 : Int32) (x2 : Int32) (x3 : Int32) (x4 : Int32) (x5 : Int32) (x6 : Int32) (M : zMem) (Q : Int32 → zMem → Prop) : Prop :=
  f_X8_extreme_b59 N k13 x1 x2 x3 x4 x6 x5 M Q
def f_X8_extreme_b52 (N : Nat) (k13 : Int32 → Int32 → zMem → Prop) (x1 : Int32) (x2 : Int32) (x3 : Int32) (x4 : Int32) (x6 : Int32) (x7 : Int32) (M : zMem) (Q : Int32 → zMem → Prop) : Prop :=
  f_X8_extreme_b59 N k13 x1 x2 x3 x4 x6 x7 M Q
def f_X8_extreme_b13 (N : Nat) (k13 : Int32 → Int32 → zMem → Prop) (x1 : Int32) (x2 : Int32) (x3 : Int32) (x4 : Int32) (x5 : Int32) (x6 : Int32) (M : zMem) (Q : Int32 → zMem → Prop) : Prop :=
  (((4 : Int32) ≤ x6 → Q x5 M) ∧ (¬ (4 : Int32) ≤ x6 → (f_X8_at N x1 x2 x6 x3 M (fun (r3 : Int32) (M4 : zMem) => ((x4 = 0 → ((x5 ≤ r3 → f_X8_extreme_b57 N k13 x1 x2 x3 x4 x5 x6 M4 Q) ∧ (¬ x5 ≤ r3 → f_X8_extreme_b52 N k13 x1 x2 x3 x4 x6 r3 M4 Q))) ∧ (¬ x4 = 0 → ((r3 ≤ x5 → f_X8_extreme_b57 N k13 x1 x2 x3 x4 x5 x6 M4 Q) ∧ (¬ r3 ≤ x5 → f_X8_extreme_b52 N k13 x1 x2 x3 x4 x6 r3 M4 Q))))))))
def f_X8_extreme_l13 (N : Nat) (x1 : Int32) (x2 : Int32) (x3 : Int32) (x4 : Int32) (Q : Int32 → zMem → Prop) : Nat → Int32 → Int32 → zMem → Prop
  | 0 => fun _ _ _ => False
  | n + 1 => fun x5 x6 M => f_X8_extreme_b13 N  (f_X8_extreme_l13 N x1 x2 x3 x4 Q n) x1 x2 x3 x4 x5 x6 M Q
def f_X8_extreme (N : Nat) (x1 : Int32) (x2 : Int32) (x3 : Int32) (x4 : Int32) (M : zMem) (Q : Int32 → zMem → Prop) : Prop :=
  (f_X8_at N x1 x2 (0 : Int32) x3 M (fun (r1 : Int32) (M2 : zMem) => f_X8_extreme_l13 N x1 x2 x3 x4 Q N r1 (1 : Int32) M2))
def f_X8_areBoxesApart_b66 (N : Nat) (k6 : Int32 → Int32 → zMem → Prop) (x1 : Int32) (x2 : Int32) (x3 : Int32) (x4 : Int32) (x6 : Int32) (s0 : Int32) (M : zMem) (Q : Int32 → zMem → Prop) : Prop :=
  (∀ v1 : Int32, v1 = x6 + (1 : Int32) → k6 s0 v1 M)
def f_X8_areBoxesApart_b61 (N : Nat) (k6 : Int32 → Int32 → zMem → Prop) (x1 : Int32) (x2 : Int32) (x3 : Int32) (x4 : Int32) (x6 : Int32) (M : zMem) (Q : Int32 → zMem → Prop) : Prop :=
  f_X8_areBoxesApart_b66 N k6 x1 x2 x3 x4 x6 (1 : Int32) M Q
def f_X8_areBoxesApart_b6 (N : Nat) (k6 : Int32 → Int32 → zMem → Prop) (x1 : Int32) (x2 : Int32) (x3 : Int32) (x4 : Int32) (x5 : Int32) (x6 : Int32) (M : zMem) (Q : Int32 → zMem → Prop) : Prop :=
  (((2 : Int32) ≤ x6 → (zb x5 ∧ Q x5 M)) ∧ (¬ (2 : Int32) ≤ x6 → ((¬ x5 = 0 → f_X8_areBoxesApart_b61 N k6 x1 x2 x3 x4 x6 M Q) ∧ (x5 = 0 → (f_X8_extreme N x1 x2 x6 (1 : Int32) M (fun (r2 : Int32) (M3 : zMem) =>  (f_X8_extreme N x3 x4 x6 (0 : Int32) M3 (fun (r4 : Int32) (M5 : zMem) => ((r2 < r4 → f_X8_areBoxesApart_b61 N k6 x1 x2 x3 x4 x6 M5 Q) ∧ (¬ r2 < r4 → (f_X8_extreme N x3 x4 x6 (1 : Int32) M5 (fun (r6 : Int32) (M7 : zMem) =>  (f_X8_extreme N x1 x2 x6 (0 : Int32) M7 (fun (r8 : Int32) (M9 : zMem) => ((r8 ≤ r6 → f_X8_areBoxesApart_b66 N k6 x1 x2 x3 x4 x6 (0 : Int32) M9 Q) ∧ (¬ r8 ≤ r6 → f_X8_areBoxesApart_b61 N k6 x1 x2 x3 x4 x6 M9 Q))))))))))))))))
def f_X8_areBoxesApart_l6 (N : Nat) (x1 : Int32) (x2 : Int32) (x3 : Int32) (x4 : Int32) (Q : Int32 → zMem → Prop) : Nat → Int32 → Int32 → zMem → Prop
  | 0 => fun _ _ _ => False
  | n + 1 => fun x5 x6 M => f_X8_areBoxesApart_b6 N  (f_X8_areBoxesApart_l6 N x1 x2 x3 x4 Q n) x1 x2 x3 x4 x5 x6 M Q
def f_X8_areBoxesApart (N : Nat) (x1 : Int32) (x2 : Int32) (x3 : Int32) (x4 : Int32) (M : zMem) (Q : Int32 → zMem → Prop) : Prop :=
  f_X8_areBoxesApart_l6 N x1 x2 x3 x4 Q N (0 : Int32) (0 : Int32) M
def f_X8_apartOf (N : Nat) (x1 : Int32) (x2 : Int32) (x3 : Int32) (x4 : Int32) (M : zMem) (Q : Int32 → zMem → Prop) : Prop :=
  (f_X8_areBoxesApart N x1 x2 x3 x4 M (fun (r1 : Int32) (M2 : zMem) => ((r1 = 0 → (f_X8_clears N x1 x2 x3 x4 M2 (fun (r3 : Int32) (M4 : zMem) => ((r3 = 0 → (f_X8_clears N x3 x4 x1 x2 M4 (fun (r5 : Int32) (M6 : zMem) => ((r5 = 0 → Q (0 : Int32) M6) ∧ (¬ r5 = 0 → Q (3 : Int32) M6))))) ∧ (¬ r3 = 0 → Q (2 : Int32) M4))))) ∧ (¬ r1 = 0 → Q (1 : Int32) M2))))
def f_X8_turnOf_b102 (N : Nat) (k9 : Int32 → Int32 → Int32 → zMem → Prop) (x1 : Int32) (x2 : Int32) (x3 : Int32) (x4 : Int32) (x5 : Int32) (x7 : Int32) (s0 : Int32) (s1 : Int32) (M : zMem) (Q : Int32 → zMem → Prop) : Prop :=
  (∀ v12 : Int32, v12 = s0 + s1 →  (∀ v13 : Int32, v13 = x7 + (1 : Int32) → k9 x5 v12 v13 M))
def f_X8_turnOf_b85 (N : Nat) (k9 : Int32 → Int32 → Int32 → zMem → Prop) (x1 : Int32) (x2 : Int32) (x3 : Int32) (x4 : Int32) (x6 : Int32) (x7 : Int32) (x8 : Int64) (s0 : Int32) (s1 : Int32) (M : zMem) (Q : Int32 → zMem → Prop) : Prop :=
  (∀ v11 : Int32, v11 = s0 + s1 → (((0 : Int64) ≤ x8 → f_X8_turnOf_b102 N k9 x1 x2 x3 x4 v11 x7 x6 (0 : Int32) M Q) ∧ (¬ (0 : Int64) ≤ x8 → f_X8_turnOf_b102 N k9 x1 x2 x3 x4 v11 x7 x6 (1 : Int32) M Q)))
def f_X8_turnOf_b9 (N : Nat) (k9 : Int32 → Int32 → Int32 → zMem → Prop) (x1 : Int32) (x2 : Int32) (x3 : Int32) (x4 : Int32) (x5 : Int32) (x6 : Int32) (x7 : Int32) (M : zMem) (Q : Int32 → zMem → Prop) : Prop :=
  (((9 : Int32) ≤ x7 → ((¬ x5 = (9 : Int32) → ((¬ x6 = (9 : Int32) → Q (0 : Int32) M) ∧ (x6 = (9 : Int32) → Q (-1 : Int32) M))) ∧ (x5 = (9 : Int32) → Q (1 : Int32) M))) ∧ (¬ (9 : Int32) ≤ x7 → (f_X8_stepOf N x1 x2 (x7 / (3 : Int32)) (0 : Int32) M (fun (r1 : Int32) (M2 : zMem) =>  (f_X8_stepOf N x1 x2 (x7 / (3 : Int32)) (1 : Int32) M2 (fun (r3 : Int32) (M4 : zMem) =>  (f_X8_stepOf N x3 x4 (x7 - x7 / (3 : Int32) * (3 : Int32)) (0 : Int32) M4 (fun (r5 : Int32) (M6 : zMem) =>  (f_X8_stepOf N x3 x4 (x7 - x7 / (3 : Int32) * (3 : Int32)) (1 : Int32) M6 (fun (r7 : Int32) (M8 : zMem) =>  (f_X8_cross N (r1.toInt64) (r3.toInt64) (r5.toInt64) (r7.toInt64) M8 (fun (r9 : Int64) (M10 : zMem) => ((r9 ≤ (0 : Int64) → f_X8_turnOf_b85 N k9 x1 x2 x3 x4 x6 x7 r9 x5 (0 : Int32) M10 Q) ∧ (¬ r9 ≤ (0 : Int64) → f_X8_turnOf_b85 N k9 x1 x2 x3 x4 x6 x7 r9 x5 (1 : Int32) M10 Q))))))))))))))
def f_X8_turnOf_l9 (N : Nat) (x1 : Int32) (x2 : Int32) (x3 : Int32) (x4 : Int32) (Q : Int32 → zMem → Prop) : Nat → Int32 → Int32 → Int32 → zMem → Prop
  | 0 => fun _ _ _ _ => False
  | n + 1 => fun x5 x6 x7 M => f_X8_turnOf_b9 N  (f_X8_turnOf_l9 N x1 x2 x3 x4 Q n) x1 x2 x3 x4 x5 x6 x7 M Q
def f_X8_turnOf (N : Nat) (x1 : Int32) (x2 : Int32) (x3 : Int32) (x4 : Int32) (M : zMem) (Q : Int32 → zMem → Prop) : Prop :=
  f_X8_turnOf_l9 N x1 x2 x3 x4 Q N (0 : Int32) (0 : Int32) (0 : Int32) M
def f_X8_isAcross (N : Nat) (x1 : Int32) (x2 : Int32) (x3 : Int32) (x4 : Int32) (M : zMem) (Q : Int32 → zMem → Prop) : Prop :=
  (f_X8_beyond N x1 x2 x3 x4 (1 : Int32) (3 : Int32) M (fun (r1 : Int32) (M2 : zMem) => ((¬ r1 = (1 : Int32) → Q (0 : Int32) M2) ∧ (r1 = (1 : Int32) → (f_X8_beyond N x1 x2 x3 x4 (0 : Int32) (3 : Int32) M2 (fun (r3 : Int32) (M4 : zMem) => ((¬ r3 = (1 : Int32) → Q (0 : Int32) M4) ∧ (r3 = (1 : Int32) → Q (1 : Int32) M4))))))))
def f_X8_areCrossed (N : Nat) (x1 : Int32) (x2 : Int32) (x3 : Int32) (x4 : Int32) (M : zMem) (Q : Int32 → zMem → Prop) : Prop :=
  (f_X8_turnOf N x1 x2 x3 x4 M (fun (r1 : Int32) (M2 : zMem) => ((r1 = 0 → Q (0 : Int32) M2) ∧ (¬ r1 = 0 → (f_X8_isAcross N x1 x2 x3 x4 M2 (fun (r3 : Int32) (M4 : zMem) => ((r3 = 0 → Q (0 : Int32) M4) ∧ (¬ r3 = 0 → (f_X8_isAcross N x3 x4 x1 x2 M4 (fun (r5 : Int32) (M6 : zMem) => ((r5 = 0 → Q (0 : Int32) M6) ∧ (¬ r5 = 0 → Q (1 : Int32) M6))))))))))))
def f_X8_point (N : Nat) (x1 : Int32) (x2 : Int32) (x3 : Int32) (x4 : Int32) (M : zMem) (Q : Int32 → zMem → Prop) : Prop :=
  (∀ M1 : zMem, M1 = zwI M 47 0 (0 : Int32) →  (f_X8_isArc N x1 M1 (fun (r2 : Int32) (M3 : zMem) => ((r2 = 0 → Q (-2147483647 : Int32) M3) ∧ (¬ r2 = 0 → (f_X8_isNode N x2 M3 (fun (r4 : Int32) (M5 : zMem) => ((r4 = 0 → Q (-2147483647 : Int32) M5) ∧ (¬ r4 = 0 → (f_X8_in N x3 (0 : Int32) (3 : Int32) M5 (fun (r6 : Int32) (M7 : zMem) => ((r6 = 0 → Q (-2147483647 : Int32) M7) ∧ (¬ r6 = 0 → (f_X8_in N x4 (0 : Int32) (1 : Int32) M7 (fun (r8 : Int32) (M9 : zMem) => ((¬ r8 = 0 → (f_X8_lays N  M9 (fun (M11 : zMem) =>  (f_X8_at N x1 x2 x3 x4 M11 (fun (r12 : Int32) (M13 : zMem) => Q r12 M13))))) ∧ (r8 = 0 → Q (-2147483647 : Int32) M9)))))))))))))))))
def f_X8_arePair (N : Nat) (x1 : Int32) (x2 : Int32) (M : zMem) (Q : Int32 → zMem → Prop) : Prop :=
  (f_X8_isArc N x1 M (fun (r1 : Int32) (M2 : zMem) => ((r1 = 0 → Q (0 : Int32) M2) ∧ (¬ r1 = 0 → (f_X8_isArc N x2 M2 (fun (r3 : Int32) (M4 : zMem) => ((r3 = 0 → Q (0 : Int32) M4) ∧ (¬ r3 = 0 → ((x1 = x2 → Q (0 : Int32) M4) ∧ (¬ x1 = x2 → Q (1 : Int32) M4))))))))))
def f_X8_apart (N : Nat) (x1 : Int32) (x2 : Int32) (x3 : Int32) (x4 : Int32) (M : zMem) (Q : Int32 → zMem → Prop) : Prop :=
  (∀ M1 : zMem, M1 = zwI M 47 0 (0 : Int32) →  (f_X8_arePair N x1 x3 M1 (fun (r2 : Int32) (M3 : zMem) => ((r2 = 0 → Q (-1 : Int32) M3) ∧ (¬ r2 = 0 → (f_X8_isNode N x2 M3 (fun (r4 : Int32) (M5 : zMem) => ((r4 = 0 → Q (-1 : Int32) M5) ∧ (¬ r4 = 0 → (f_X8_isNode N x4 M5 (fun (r6 : Int32) (M7 : zMem) => ((¬ r6 = 0 → (f_X8_lays N  M7 (fun (M9 : zMem) =>  (f_X8_apartOf N x1 x2 x3 x4 M9 (fun (r10 : Int32) (M11 : zMem) => Q r10 M11))))) ∧ (r6 = 0 → Q (-1 : Int32) M7)))))))))))))
def f_X8_turn_b65 (N : Nat) (x1 : Int32) (x2 : Int32) (x3 : Int32) (x4 : Int32) (s0 : Int32) (M : zMem) (Q : Int32 → zMem → Prop) : Prop :=
  (f_X8_areCrossed N x1 x2 x3 x4 M (fun (r12 : Int32) (M13 : zMem) => ((r12 = 0 → Q s0 M13) ∧ (¬ r12 = 0 → Q (s0 + (2 : Int32)) M13))))
def f_X8_turn (N : Nat) (x1 : Int32) (x2 : Int32) (x3 : Int32) (x4 : Int32) (M : zMem) (Q : Int32 → zMem → Prop) : Prop :=
  (∀ M1 : zMem, M1 = zwI M 47 0 (0 : Int32) →  (f_X8_arePair N x1 x3 M1 (fun (r2 : Int32) (M3 : zMem) => ((r2 = 0 → Q (-1 : Int32) M3) ∧ (¬ r2 = 0 → (f_X8_isNode N x2 M3 (fun (r4 : Int32) (M5 : zMem) => ((r4 = 0 → Q (-1 : Int32) M5) ∧ (¬ r4 = 0 → (f_X8_isNode N x4 M5 (fun (r6 : Int32) (M7 : zMem) => ((¬ r6 = 0 → (f_X8_lays N  M7 (fun (M9 : zMem) =>  (f_X8_turnOf N x1 x2 x3 x4 M9 (fun (r10 : Int32) (M11 : zMem) => ((¬ r10 = 0 → ((r10 ≤ 0 → f_X8_turn_b65 N x1 x2 x3 x4 (2 : Int32) M11 Q) ∧ (¬ r10 ≤ 0 → f_X8_turn_b65 N x1 x2 x3 x4 (1 : Int32) M11 Q))) ∧ (r10 = 0 → f_X8_turn_b65 N x1 x2 x3 x4 (0 : Int32) M11 Q))))))) ∧ (r6 = 0 → Q (-1 : Int32) M7)))))))))))))
def f_X8_signOf (N : Nat) (x0 : Int32) (x1 : Int32) (M : zMem) (Q : Int32 → zMem → Prop) : Prop :=
  ((x0 = 0 → ((x1 = 0 → Q (0 : Int32) M) ∧ (¬ x1 = 0 → Q (2 : Int32) M))) ∧ (¬ x0 = 0 → ((x1 = 0 → Q (1 : Int32) M) ∧ (¬ x1 = 0 → Q (3 : Int32) M))))
def f_X8_bend (N : Nat) (x1 : Int32) (x2 : Int32) (x3 : Int32) (M : zMem) (Q : Int64 → zMem → Prop) : Prop :=
  (f_X8_stepOf N x1 x2 x3 (0 : Int32) M (fun (r1 : Int32) (M2 : zMem) =>  (f_X8_stepOf N x1 x2 x3 (1 : Int32) M2 (fun (r3 : Int32) (M4 : zMem) =>  (f_X8_stepOf N x1 x2 (x3 + (1 : Int32)) (0 : Int32) M4 (fun (r5 : Int32) (M6 : zMem) =>  (f_X8_stepOf N x1 x2 (x3 + (1 : Int32)) (1 : Int32) M6 (fun (r7 : Int32) (M8 : zMem) =>  (f_X8_cross N (r1.toInt64) (r3.toInt64) (r5.toInt64) (r7.toInt64) M8 (fun (r9 : Int64) (M10 : zMem) => Q r9 M10))))))))))
def f_X8_bends_b84 (N : Nat) (s0 : Int32) (s1 : Int32) (M : zMem) (Q : Int32 → zMem → Prop) : Prop :=
  (f_X8_signOf N s0 s1 M (fun (r12 : Int32) (M13 : zMem) => Q r12 M13))
def f_X8_bends_b79 (N : Nat) (s0 : Int32) (M : zMem) (Q : Int32 → zMem → Prop) : Prop :=
  f_X8_bends_b84 N s0 (1 : Int32) M Q
def f_X8_bends_b55 (N : Nat) (x1 : Int32) (x2 : Int32) (s0 : Int32) (M : zMem) (Q : Int32 → zMem → Prop) : Prop :=
  (f_X8_bend N x1 x2 (0 : Int32) M (fun (r10 : Int64) (M11 : zMem) => ((r10 < (0 : Int64) → f_X8_bends_b79 N s0 M11 Q) ∧ (¬ r10 < (0 : Int64) → (f_X8_bend N x1 x2 (1 : Int32) M11 (fun (r14 : Int64) (M15 : zMem) => (((0 : Int64) ≤ r14 → f_X8_bends_b84 N s0 (0 : Int32) M15 Q) ∧ (¬ (0 : Int64) ≤ r14 → f_X8_bends_b79 N s0 M15 Q))))))))
def f_X8_bends_b50 (N : Nat) (x1 : Int32) (x2 : Int32) (M : zMem) (Q : Int32 → zMem → Prop) : Prop :=
  f_X8_bends_b55 N x1 x2 (1 : Int32) M Q
def f_X8_bends (N : Nat) (x1 : Int32) (x2 : Int32) (M : zMem) (Q : Int32 → zMem → Prop) : Prop :=
  (∀ M1 : zMem, M1 = zwI M 47 0 (0 : Int32) →  (f_X8_isArc N x1 M1 (fun (r2 : Int32) (M3 : zMem) => ((r2 = 0 → Q (-1 : Int32) M3) ∧ (¬ r2 = 0 → (f_X8_isNode N x2 M3 (fun (r4 : Int32) (M5 : zMem) => ((¬ r4 = 0 → (f_X8_lays N  M5 (fun (M7 : zMem) =>  (f_X8_bend N x1 x2 (0 : Int32) M7 (fun (r8 : Int64) (M9 : zMem) => (((0 : Int64) < r8 → f_X8_bends_b50 N x1 x2 M9 Q) ∧ (¬ (0 : Int64) < r8 → (f_X8_bend N x1 x2 (1 : Int32) M9 (fun (r16 : Int64) (M17 : zMem) => ((r16 ≤ (0 : Int64) → f_X8_bends_b55 N x1 x2 (0 : Int32) M17 Q) ∧ (¬ r16 ≤ (0 : Int64) → f_X8_bends_b50 N x1 x2 M17 Q))))))))))) ∧ (r4 = 0 → Q (-1 : Int32) M5)))))))))
def f_X8_goes_b96 (N : Nat) (k44 : Int32 → Int32 → Int32 → zMem → Prop) (x1 : Int32) (x2 : Int32) (x3 : Int32) (x4 : Int32) (x6 : Int32) (s0 : Int32) (M : zMem) (Q : Int32 → zMem → Prop) : Prop :=
  (∀ v12 : Int32, v12 = x6 + (1 : Int32) → k44 x4 s0 v12 M)
def f_X8_goes_b91 (N : Nat) (k44 : Int32 → Int32 → Int32 → zMem → Prop) (x1 : Int32) (x2 : Int32) (x3 : Int32) (x4 : Int32) (x6 : Int32) (M : zMem) (Q : Int32 → zMem → Prop) : Prop :=
  f_X8_goes_b96 N k44 x1 x2 x3 x4 x6 (1 : Int32) M Q
def f_X8_goes_b72 (N : Nat) (k44 : Int32 → Int32 → Int32 → zMem → Prop) (x1 : Int32) (x2 : Int32) (x3 : Int32) (x5 : Int32) (x6 : Int32) (s0 : Int32) (M : zMem) (Q : Int32 → zMem → Prop) : Prop :=
  ((¬ x5 = 0 → f_X8_goes_b91 N k44 x1 x2 x3 s0 x6 M Q) ∧ (x5 = 0 → (f_X8_stepOf N x1 x2 x6 x3 M (fun (r13 : Int32) (M14 : zMem) => ((0 ≤ r13 → f_X8_goes_b96 N k44 x1 x2 x3 s0 x6 (0 : Int32) M14 Q) ∧ (¬ 0 ≤ r13 → f_X8_goes_b91 N k44 x1 x2 x3 s0 x6 M14 Q))))))
def f_X8_goes_b67 (N : Nat) (k44 : Int32 → Int32 → Int32 → zMem → Prop) (x1 : Int32) (x2 : Int32) (x3 : Int32) (x5 : Int32) (x6 : Int32) (M : zMem) (Q : Int32 → zMem → Prop) : Prop :=
  f_X8_goes_b72 N k44 x1 x2 x3 x5 x6 (1 : Int32) M Q
def f_X8_goes_b44 (N : Nat) (k44 : Int32 → Int32 → Int32 → zMem → Prop) (x1 : Int32) (x2 : Int32) (x3 : Int32) (x4 : Int32) (x5 : Int32) (x6 : Int32) (M : zMem) (Q : Int32 → zMem → Prop) : Prop :=
  (((3 : Int32) ≤ x6 → (f_X8_signOf N x4 x5 M (fun (r10 : Int32) (M11 : zMem) => Q r10 M11))) ∧ (¬ (3 : Int32) ≤ x6 → ((¬ x4 = 0 → f_X8_goes_b67 N k44 x1 x2 x3 x5 x6 M Q) ∧ (x4 = 0 → (f_X8_stepOf N x1 x2 x6 x3 M (fun (r15 : Int32) (M16 : zMem) => ((r15 ≤ 0 → f_X8_goes_b72 N k44 x1 x2 x3 x5 x6 (0 : Int32) M16 Q) ∧ (¬ r15 ≤ 0 → f_X8_goes_b67 N k44 x1 x2 x3 x5 x6 M16 Q))))))))
def f_X8_goes_l44 (N : Nat) (x1 : Int32) (x2 : Int32) (x3 : Int32) (Q : Int32 → zMem → Prop) : Nat → Int32 → Int32 → Int32 → zMem → Prop
  | 0 => fun _ _ _ _ => False
  | n + 1 => fun x4 x5 x6 M => f_X8_goes_b44 N  (f_X8_goes_l44 N x1 x2 x3 Q n) x1 x2 x3 x4 x5 x6 M Q
def f_X8_goes (N : Nat) (x1 : Int32) (x2 : Int32) (x3 : Int32) (M : zMem) (Q : Int32 → zMem → Prop) : Prop :=
  (∀ M1 : zMem, M1 = zwI M 47 0 (0 : Int32) →  (f_X8_isArc N x1 M1 (fun (r2 : Int32) (M3 : zMem) => ((r2 = 0 → Q (-1 : Int32) M3) ∧ (¬ r2 = 0 → (f_X8_isNode N x2 M3 (fun (r4 : Int32) (M5 : zMem) => ((r4 = 0 → Q (-1 : Int32) M5) ∧ (¬ r4 = 0 → (f_X8_in N x3 (0 : Int32) (1 : Int32) M5 (fun (r6 : Int32) (M7 : zMem) => ((¬ r6 = 0 → (f_X8_lays N  M7 (fun (M9 : zMem) => f_X8_goes_l44 N x1 x2 x3 Q N (0 : Int32) (0 : Int32) (0 : Int32) M9))) ∧ (r6 = 0 → Q (-1 : Int32) M7)))))))))))))
def f_X8_crossOf (N : Nat) (x1 : Int32) (x2 : Int32) (x3 : Int32) (M : zMem) (Q : Int32 → zMem → Prop) : Prop :=
  (∀ v1 : Int32, v1 = (8 : Int32) * x1 →  (vp_in (v1 + ((2 : Int32) * x2)) 32 ∧  (vp_in ((v1 + ((2 : Int32) * x2)) + (1 : Int32)) 32 ∧  (vp_in (v1 + ((2 : Int32) * x3)) 32 ∧  (vp_in ((v1 + ((2 : Int32) * x3)) + (1 : Int32)) 32 ∧  (f_X8_cross N ((zrd M 48 (v1 + ((2 : Int32) * x2))).toInt64) ((zrd M 48 ((v1 + ((2 : Int32) * x2)) + (1 : Int32))).toInt64) ((zrd M 48 (v1 + ((2 : Int32) * x3))).toInt64) ((zrd M 48 ((v1 + ((2 : Int32) * x3)) + (1 : Int32))).toInt64) M (fun (r2 : Int64) (M3 : zMem) => Q (r2.toInt32) M3)))))))
def f_X8_areaOf (N : Nat) (x1 : Int32) (M : zMem) (Q : Int32 → zMem → Prop) : Prop :=
  (f_X8_crossOf N x1 (0 : Int32) (1 : Int32) M (fun (r1 : Int32) (M2 : zMem) =>  (f_X8_crossOf N x1 (0 : Int32) (2 : Int32) M2 (fun (r3 : Int32) (M4 : zMem) =>  (f_X8_crossOf N x1 (0 : Int32) (3 : Int32) M4 (fun (r5 : Int32) (M6 : zMem) =>  (f_X8_crossOf N x1 (1 : Int32) (2 : Int32) M6 (fun (r7 : Int32) (M8 : zMem) =>  (f_X8_crossOf N x1 (1 : Int32) (3 : Int32) M8 (fun (r9 : Int32) (M10 : zMem) =>  (f_X8_crossOf N x1 (2 : Int32) (3 : Int32) M10 (fun (r11 : Int32) (M12 : zMem) => Q (((((((6 : Int32) * r1) + ((3 : Int32) * r3)) + r5) + ((3 : Int32) * r7)) + ((3 : Int32) * r9)) + ((6 : Int32) * r11)) M12))))))))))))
def f_X8_area_b90 (N : Nat) (k90 : Int32 → Int32 → zMem → Prop) (x2 : Int32) (x3 : Int32) (x4 : Int32) (x5 : Int32) (M : zMem) (Q : Int32 → zMem → Prop) : Prop :=
  ((x5 = 0 → ((¬ x2 = 0 → ((¬ x4 = 0) ∧ Q ((20 : Int32) / x4) M)) ∧ (x2 = 0 → ((¬ x4 = 0) ∧ Q (x3 / x4) M)))) ∧ (¬ x5 = 0 → ((¬ x5 = 0) ∧  (∀ v4 : Int32, v4 = x4 - x4 / x5 * x5 → k90 x5 v4 M))))
def f_X8_area_l90 (N : Nat) (x2 : Int32) (x3 : Int32) (Q : Int32 → zMem → Prop) : Nat → Int32 → Int32 → zMem → Prop
  | 0 => fun _ _ _ => False
  | n + 1 => fun x4 x5 M => f_X8_area_b90 N  (f_X8_area_l90 N x2 x3 Q n) x2 x3 x4 x5 M Q
def f_X8_area_b88 (N : Nat) (x2 : Int32) (x3 : Int32) (x4 : Int32) (s0 : Int32) (M : zMem) (Q : Int32 → zMem → Prop) : Prop :=
  f_X8_area_l90 N x2 x3 Q N x4 s0 M
def f_X8_area_b66 (N : Nat) (k35 : Int32 → Int32 → zMem → Prop) (x1 : Int32) (x2 : Int32) (x4 : Int32) (s0 : Int32) (s1 : Int32) (M : zMem) (Q : Int32 → zMem → Prop) : Prop :=
  (∀ v7 : Int32, v7 = s0 + s1 →  (∀ v8 : Int32, v8 = x4 + (1 : Int32) → k35 v7 v8 M))
def f_X8_area_b56 (N : Nat) (k35 : Int32 → Int32 → zMem → Prop) (x1 : Int32) (x2 : Int32) (x4 : Int32) (s0 : Int32) (M : zMem) (Q : Int32 → zMem → Prop) : Prop :=
  (f_X8_areaOf N x4 M (fun (r5 : Int32) (M6 : zMem) => f_X8_area_b66 N k35 x1 x2 x4 s0 r5 M6 Q))
def f_X8_area_b35 (N : Nat) (k35 : Int32 → Int32 → zMem → Prop) (x1 : Int32) (x2 : Int32) (x3 : Int32) (x4 : Int32) (M : zMem) (Q : Int32 → zMem → Prop) : Prop :=
  (((M.1 47 1) ≤ x4 → ((0 ≤ x3 → f_X8_area_b88 N x2 x3 (20 : Int32) x3 M Q) ∧ (¬ 0 ≤ x3 → f_X8_area_b88 N x2 x3 (20 : Int32) (-x3) M Q))) ∧ (¬ (M.1 47 1) ≤ x4 → ((x1 = (-1 : Int32) → f_X8_area_b56 N k35 x1 x2 x4 x3 M Q) ∧ (¬ x1 = (-1 : Int32) → ((¬ x1 = x4 → f_X8_area_b66 N k35 x1 x2 x4 x3 (0 : Int32) M Q) ∧ (x1 = x4 → f_X8_area_b56 N k35 x1 x2 x4 x3 M Q))))))
def f_X8_area_l35 (N : Nat) (x1 : Int32) (x2 : Int32) (Q : Int32 → zMem → Prop) : Nat → Int32 → Int32 → zMem → Prop
  | 0 => fun _ _ _ => False
  | n + 1 => fun x3 x4 M => f_X8_area_b35 N  (f_X8_area_l35 N x1 x2 Q n) x1 x2 x3 x4 M Q
def f_X8_area_b18 (N : Nat) (x1 : Int32) (x2 : Int32) (M : zMem) (Q : Int32 → zMem → Prop) : Prop :=
  (f_X8_in N x2 (0 : Int32) (1 : Int32) M (fun (r2 : Int32) (M3 : zMem) => ((¬ r2 = 0 → f_X8_area_l35 N x1 x2 Q N (0 : Int32) (0 : Int32) M3) ∧ (r2 = 0 → Q (-2147483647 : Int32) M3))))
def f_X8_area (N : Nat) (x1 : Int32) (x2 : Int32) (M : zMem) (Q : Int32 → zMem → Prop) : Prop :=
  (∀ M1 : zMem, M1 = zwI M 47 0 (0 : Int32) → ((x1 = (-1 : Int32) → f_X8_area_b18 N x1 x2 M1 Q) ∧ (¬ x1 = (-1 : Int32) → (f_X8_isArc N x1 M1 (fun (r9 : Int32) (M10 : zMem) => ((r9 = 0 → Q (-2147483647 : Int32) M10) ∧ (¬ r9 = 0 → f_X8_area_b18 N x1 x2 M10 Q)))))))
def f_X8_waits (N : Nat) (x1 : Int32) (x2 : Int32) (M : zMem) (Q : zMem → Prop) : Prop :=
  (vp_in (M.1 47 27) 64 ∧  (∀ M1 : zMem, M1 = zst M 61 (M.1 47 27) x1 →  (vp_in (M1.1 47 27) 64 ∧  (∀ M2 : zMem, M2 = zst M1 62 (M1.1 47 27) x2 →  (∀ M3 : zMem, M3 = zwI M2 47 27 ((M2.1 47 27) + (1 : Int32)) → Q M3)))))
def f_X8_isTooMany_b92 (N : Nat) (x2 : Int32) (x4 : Int32) (x5 : Int32) (M : zMem) (Q : Int32 → zMem → Prop) : Prop :=
  ((¬ (M.1 47 19) = (100 : Int32) → (vp_in (M.1 47 19) 100 ∧  (∀ M5 : zMem, M5 = zst M 57 (M.1 47 19) x2 →  (vp_in (M5.1 47 19) 100 ∧  (∀ M6 : zMem, M6 = zst M5 58 (M5.1 47 19) x4 →  (vp_in (M6.1 47 19) 100 ∧  (∀ M7 : zMem, M7 = zst M6 59 (M6.1 47 19) (vp_nar .boolean x5) →  (vp_in (M7.1 47 19) 100 ∧  (∀ M8 : zMem, M8 = zst M7 60 (M7.1 47 19) (M7.1 47 19) →  (∀ M9 : zMem, M9 = zwI M8 47 19 ((M8.1 47 19) + (1 : Int32)) → Q (0 : Int32) M9)))))))))) ∧ ((M.1 47 19) = (100 : Int32) → Q (1 : Int32) M))
def f_X8_isTooMany (N : Nat) (x1 : Int32) (x2 : Int32) (x3 : Int32) (x4 : Int32) (M : zMem) (Q : Int32 → zMem → Prop) : Prop :=
  (f_X8_apartOf N x1 x2 x3 x4 M (fun (r1 : Int32) (M2 : zMem) => ((r1 = 0 → (f_X8_areCrossed N x1 x2 x3 x4 M2 (fun (r3 : Int32) (M4 : zMem) => ((¬ r3 = 0 → f_X8_isTooMany_b92 N x2 x4 r3 M4 Q) ∧ (r3 = 0 → (f_X8_depth N x2 M4 (fun (r10 : Int32) (M11 : zMem) => (((5 : Int32) ≤ r10 → f_X8_isTooMany_b92 N x2 x4 r3 M11 Q) ∧ (¬ (5 : Int32) ≤ r10 → (f_X8_waits N (((2 : Int32) * x2) + (1 : Int32)) (((2 : Int32) * x4) + (1 : Int32)) M11 (fun (M13 : zMem) =>  (f_X8_waits N (((2 : Int32) * x2) + (1 : Int32)) ((2 : Int32) * x4) M13 (fun (M15 : zMem) =>  (f_X8_waits N ((2 : Int32) * x2) (((2 : Int32) * x4) + (1 : Int32)) M15 (fun (M17 : zMem) =>  (f_X8_waits N ((2 : Int32) * x2) ((2 : Int32) * x4) M17 (fun (M19 : zMem) => Q (0 : Int32) M19))))))))))))))))) ∧ (¬ r1 = 0 → Q (0 : Int32) M2))))
def f_X8_areNear (N : Nat) (x1 : Int32) (x2 : Int32) (M : zMem) (Q : Int32 → zMem → Prop) : Prop :=
  (vp_in x1 100 ∧ ((¬ (zrd M 59 x1) = 0 → Q (0 : Int32) M) ∧ ((zrd M 59 x1) = 0 → (vp_in x2 100 ∧ ((¬ (zrd M 59 x2) = 0 → Q (0 : Int32) M) ∧ ((zrd M 59 x2) = 0 → (vp_in x1 100 ∧  (vp_in x2 100 ∧  (f_X8_in N ((zrd M 57 x1) - (zrd M 57 x2)) (-1 : Int32) (1 : Int32) M (fun (r1 : Int32) (M2 : zMem) => ((r1 = 0 → Q (0 : Int32) M2) ∧ (¬ r1 = 0 → (vp_in x1 100 ∧  (vp_in x2 100 ∧  (f_X8_in N ((zrd M2 58 x1) - (zrd M2 58 x2)) (-1 : Int32) (1 : Int32) M2 (fun (r3 : Int32) (M4 : zMem) => ((r3 = 0 → Q (0 : Int32) M4) ∧ (¬ r3 = 0 → Q (1 : Int32) M4))))))))))))))))))
def f_X8_laysSpots_b193 (N : Nat) (k193 : Int32 → zMem → Prop) (x2 : Int32) (M : zMem) (Q : zMem → Prop) : Prop :=
  (((M.1 47 19) ≤ x2 → Q M) ∧ (¬ (M.1 47 19) ≤ x2 → (vp_in x2 100 ∧  (vp_in x2 100 ∧  (∀ M2 : zMem, M2 = zst M 60 x2 ((-1 : Int32) - (zrd M 60 x2)) →  (∀ v3 : Int32, v3 = x2 + (1 : Int32) → k193 v3 M2))))))
def f_X8_laysSpots_l193 (N : Nat)  (Q : zMem → Prop) : Nat → Int32 → zMem → Prop
  | 0 => fun _ _ => False
  | n + 1 => fun x2 M => f_X8_laysSpots_b193 N  (f_X8_laysSpots_l193 N  Q n)  x2 M Q
def f_X8_laysSpots_b181 (N : Nat) (k88 : Int32 → zMem → Prop) (x2 : Int32) (s1 : Int32) (s2 : Int32) (M : zMem) (Q : zMem → Prop) : Prop :=
  (∀ M4 : zMem, M4 = zwI M 47 24 (s1 + s2) →  (∀ v5 : Int32, v5 = x2 + (1 : Int32) → k88 v5 M4))
def f_X8_laysSpots_b161 (N : Nat) (k88 : Int32 → zMem → Prop) (k101 : Int32 → Int32 → zMem → Prop) (x2 : Int32) (x3 : Int32) (x4 : Int32) (M : zMem) (Q : zMem → Prop) : Prop :=
  (∀ v6 : Int32, v6 = x4 + (1 : Int32) → k101 x3 v6 M)
def f_X8_laysSpots_b146 (N : Nat) (k88 : Int32 → zMem → Prop) (k101 : Int32 → Int32 → zMem → Prop) (x2 : Int32) (x4 : Int32) (M : zMem) (Q : zMem → Prop) : Prop :=
  (vp_in x4 100 ∧  (∀ M7 : zMem, M7 = zst M 60 x4 ((-1 : Int32) - (M.1 47 24)) → f_X8_laysSpots_b161 N k88 k101 x2 (1 : Int32) x4 M7 Q))
def f_X8_laysSpots_b131 (N : Nat) (k88 : Int32 → zMem → Prop) (k101 : Int32 → Int32 → zMem → Prop) (x2 : Int32) (x3 : Int32) (x4 : Int32) (M : zMem) (Q : zMem → Prop) : Prop :=
  ((x3 = 0 → f_X8_laysSpots_b161 N k88 k101 x2 x3 x4 M Q) ∧ (¬ x3 = 0 → (vp_in x4 100 ∧ ((¬ (zrd M 60 x4) = x2 → f_X8_laysSpots_b161 N k88 k101 x2 x3 x4 M Q) ∧ ((zrd M 60 x4) = x2 → f_X8_laysSpots_b146 N k88 k101 x2 x4 M Q)))))
def f_X8_laysSpots_b101 (N : Nat) (k88 : Int32 → zMem → Prop) (k101 : Int32 → Int32 → zMem → Prop) (x2 : Int32) (x3 : Int32) (x4 : Int32) (M : zMem) (Q : zMem → Prop) : Prop :=
  (((M.1 47 19) ≤ x4 → ((x3 = 0 → f_X8_laysSpots_b181 N k88 x2 (M.1 47 24) (0 : Int32) M Q) ∧ (¬ x3 = 0 → f_X8_laysSpots_b181 N k88 x2 (M.1 47 24) (1 : Int32) M Q))) ∧ (¬ (M.1 47 19) ≤ x4 → (vp_in x4 100 ∧ ((¬ (zrd M 60 x4) = x2 → f_X8_laysSpots_b131 N k88 k101 x2 x3 x4 M Q) ∧ ((zrd M 60 x4) = x2 → ((¬ x3 = 0 → f_X8_laysSpots_b131 N k88 k101 x2 x3 x4 M Q) ∧ (x3 = 0 → ((x4 = x2 → f_X8_laysSpots_b146 N k88 k101 x2 x4 M Q) ∧ (¬ x4 = x2 → f_X8_laysSpots_b131 N k88 k101 x2 x3 x4 M Q)))))))))
def f_X8_laysSpots_l101 (N : Nat) (k88 : Int32 → zMem → Prop) (x2 : Int32) (Q : zMem → Prop) : Nat → Int32 → Int32 → zMem → Prop
  | 0 => fun _ _ _ => False
  | n + 1 => fun x3 x4 M => f_X8_laysSpots_b101 N k88 (f_X8_laysSpots_l101 N k88 x2 Q n) x2 x3 x4 M Q
def f_X8_laysSpots_b88 (N : Nat) (k88 : Int32 → zMem → Prop) (x2 : Int32) (M : zMem) (Q : zMem → Prop) : Prop :=
  (((M.1 47 19) ≤ x2 → f_X8_laysSpots_l193 N  Q N (0 : Int32) M) ∧ (¬ (M.1 47 19) ≤ x2 → f_X8_laysSpots_l101 N k88 x2 Q N (0 : Int32) x2 M))
def f_X8_laysSpots_l88 (N : Nat)  (Q : zMem → Prop) : Nat → Int32 → zMem → Prop
  | 0 => fun _ _ => False
  | n + 1 => fun x2 M => f_X8_laysSpots_b88 N  (f_X8_laysSpots_l88 N  Q n)  x2 M Q
def f_X8_laysSpots_b66 (N : Nat) (k2 : Int32 → zMem → Prop) (k10 : Int32 → Int32 → zMem → Prop) (k20 : Int32 → Int32 → zMem → Prop) (x1 : Int32) (x2 : Int32) (x3 : Int32) (M : zMem) (Q : zMem → Prop) : Prop :=
  (∀ v11 : Int32, v11 = x3 + (1 : Int32) → k20 x1 v11 M)
def f_X8_laysSpots_b20 (N : Nat) (k2 : Int32 → zMem → Prop) (k10 : Int32 → Int32 → zMem → Prop) (k20 : Int32 → Int32 → zMem → Prop) (x2 : Int32) (x1 : Int32) (x3 : Int32) (M : zMem) (Q : zMem → Prop) : Prop :=
  (((M.1 47 19) ≤ x3 → (∀ v8 : Int32, v8 = x2 + (1 : Int32) → k10 x1 v8 M)) ∧ (¬ (M.1 47 19) ≤ x3 → (f_X8_areNear N x2 x3 M (fun (r9 : Int32) (M10 : zMem) => ((r9 = 0 → f_X8_laysSpots_b66 N k2 k10 k20 x1 x2 x3 M10 Q) ∧ (¬ r9 = 0 → (vp_in x3 100 ∧  (vp_in x2 100 ∧ (((zrd M10 60 x2) ≤ (zrd M10 60 x3) → f_X8_laysSpots_b66 N k2 k10 k20 x1 x2 x3 M10 Q) ∧ (¬ (zrd M10 60 x2) ≤ (zrd M10 60 x3) → (vp_in x3 100 ∧  (vp_in x2 100 ∧  (∀ M12 : zMem, M12 = zst M10 60 x2 (zrd M10 60 x3) → f_X8_laysSpots_b66 N k2 k10 k20 (1 : Int32) x2 x3 M12 Q)))))))))))))
def f_X8_laysSpots_l20 (N : Nat) (k2 : Int32 → zMem → Prop) (k10 : Int32 → Int32 → zMem → Prop) (x2 : Int32) (Q : zMem → Prop) : Nat → Int32 → Int32 → zMem → Prop
  | 0 => fun _ _ _ => False
  | n + 1 => fun x1 x3 M => f_X8_laysSpots_b20 N k2 k10 (f_X8_laysSpots_l20 N k2 k10 x2 Q n) x2 x1 x3 M Q
def f_X8_laysSpots_b10 (N : Nat) (k2 : Int32 → zMem → Prop) (k10 : Int32 → Int32 → zMem → Prop) (x1 : Int32) (x2 : Int32) (M : zMem) (Q : zMem → Prop) : Prop :=
  (((M.1 47 19) ≤ x2 → k2 x1 M) ∧ (¬ (M.1 47 19) ≤ x2 → f_X8_laysSpots_l20 N k2 k10 x2 Q N x1 (0 : Int32) M))
def f_X8_laysSpots_l10 (N : Nat) (k2 : Int32 → zMem → Prop) (Q : zMem → Prop) : Nat → Int32 → Int32 → zMem → Prop
  | 0 => fun _ _ _ => False
  | n + 1 => fun x1 x2 M => f_X8_laysSpots_b10 N k2 (f_X8_laysSpots_l10 N k2 Q n)  x1 x2 M Q
def f_X8_laysSpots_b2 (N : Nat) (k2 : Int32 → zMem → Prop) (x1 : Int32) (M : zMem) (Q : zMem → Prop) : Prop :=
  ((x1 = 0 → (∀ M1 : zMem, M1 = zwI M 47 24 (0 : Int32) → f_X8_laysSpots_l88 N  Q N (0 : Int32) M1)) ∧ (¬ x1 = 0 → f_X8_laysSpots_l10 N k2 Q N (0 : Int32) (0 : Int32) M))
def f_X8_laysSpots_l2 (N : Nat)  (Q : zMem → Prop) : Nat → Int32 → zMem → Prop
  | 0 => fun _ _ => False
  | n + 1 => fun x1 M => f_X8_laysSpots_b2 N  (f_X8_laysSpots_l2 N  Q n)  x1 M Q
def f_X8_laysSpots (N : Nat)  (M : zMem) (Q : zMem → Prop) : Prop :=
  f_X8_laysSpots_l2 N  Q N (1 : Int32) M
def f_X8_meet_b20 (N : Nat) (k20 : zMem → Prop) (x1 : Int32) (x2 : Int32) (M : zMem) (Q : Int32 → zMem → Prop) : Prop :=
  (((M.1 47 27) ≤ 0 → (f_X8_laysSpots N  M (fun (M8 : zMem) => Q (1 : Int32) M8))) ∧ (¬ (M.1 47 27) ≤ 0 → (∀ M9 : zMem, M9 = zwI M 47 27 ((M.1 47 27) - (1 : Int32)) →  (vp_in (M9.1 47 27) 64 ∧  (vp_in (M9.1 47 27) 64 ∧  (f_X8_isTooMany N x1 (zrd M9 61 (M9.1 47 27)) x2 (zrd M9 62 (M9.1 47 27)) M9 (fun (r10 : Int32) (M11 : zMem) => ((r10 = 0 → k20  M11) ∧ (¬ r10 = 0 → Q (0 : Int32) M11)))))))))
def f_X8_meet_l20 (N : Nat) (x1 : Int32) (x2 : Int32) (Q : Int32 → zMem → Prop) : Nat → zMem → Prop
  | 0 => fun _ => False
  | n + 1 => fun  M => f_X8_meet_b20 N  (f_X8_meet_l20 N x1 x2 Q n) x1 x2  M Q
def f_X8_meet (N : Nat) (x1 : Int32) (x2 : Int32) (M : zMem) (Q : Int32 → zMem → Prop) : Prop :=
  (f_X8_lays N  M (fun (M2 : zMem) =>  (∀ M3 : zMem, M3 = zwI M2 47 19 (0 : Int32) →  (∀ M4 : zMem, M4 = zwI M3 47 27 (0 : Int32) →  (f_X8_waits N (1 : Int32) (1 : Int32) M4 (fun (M6 : zMem) => f_X8_meet_l20 N x1 x2 Q N  M6))))))
def f_X8_meets_b69 (N : Nat) (k43 : Int32 → Int32 → zMem → Prop) (x3 : Int32) (x5 : Int32) (s0 : Int32) (s1 : Int32) (M : zMem) (Q : Int32 → zMem → Prop) : Prop :=
  (∀ v8 : Int32, v8 = s0 + s1 →  (∀ v9 : Int32, v9 = x5 + (1 : Int32) → k43 v8 v9 M))
def f_X8_meets_b43 (N : Nat) (k43 : Int32 → Int32 → zMem → Prop) (x3 : Int32) (x4 : Int32) (x5 : Int32) (M : zMem) (Q : Int32 → zMem → Prop) : Prop :=
  (((M.1 47 19) ≤ x5 → ((¬ x3 = 0 → ((¬ x3 = (1 : Int32) → Q (M.1 47 24) M) ∧ (x3 = (1 : Int32) → Q ((M.1 47 19) - x4) M))) ∧ (x3 = 0 → Q x4 M))) ∧ (¬ (M.1 47 19) ≤ x5 → (vp_in x5 100 ∧ (((zrd M 59 x5) = 0 → f_X8_meets_b69 N k43 x3 x5 x4 (0 : Int32) M Q) ∧ (¬ (zrd M 59 x5) = 0 → f_X8_meets_b69 N k43 x3 x5 x4 (1 : Int32) M Q)))))
def f_X8_meets_l43 (N : Nat) (x3 : Int32) (Q : Int32 → zMem → Prop) : Nat → Int32 → Int32 → zMem → Prop
  | 0 => fun _ _ _ => False
  | n + 1 => fun x4 x5 M => f_X8_meets_b43 N  (f_X8_meets_l43 N x3 Q n) x3 x4 x5 M Q
def f_X8_meets (N : Nat) (x1 : Int32) (x2 : Int32) (x3 : Int32) (M : zMem) (Q : Int32 → zMem → Prop) : Prop :=
  (∀ M1 : zMem, M1 = zwI M 47 0 (0 : Int32) →  (f_X8_arePair N x1 x2 M1 (fun (r2 : Int32) (M3 : zMem) => ((r2 = 0 → Q (-1 : Int32) M3) ∧ (¬ r2 = 0 → (f_X8_in N x3 (0 : Int32) (2 : Int32) M3 (fun (r4 : Int32) (M5 : zMem) => ((¬ r4 = 0 → (f_X8_meet N x1 x2 M5 (fun (r6 : Int32) (M7 : zMem) => ((¬ r6 = 0 → f_X8_meets_l43 N x3 Q N (0 : Int32) (0 : Int32) M7) ∧ (r6 = 0 → Q (-4 : Int32) M7))))) ∧ (r4 = 0 → Q (-1 : Int32) M5)))))))))
def f_X8_meeting (N : Nat) (x1 : Int32) (x2 : Int32) (x3 : Int32) (x4 : Int32) (M : zMem) (Q : Int32 → zMem → Prop) : Prop :=
  (∀ M1 : zMem, M1 = zwI M 47 0 (0 : Int32) →  (f_X8_arePair N x1 x2 M1 (fun (r2 : Int32) (M3 : zMem) => ((r2 = 0 → Q (-1 : Int32) M3) ∧ (¬ r2 = 0 → ((x3 < 0 → Q (-1 : Int32) M3) ∧ (¬ x3 < 0 → (f_X8_in N x4 (0 : Int32) (2 : Int32) M3 (fun (r4 : Int32) (M5 : zMem) => ((¬ r4 = 0 → (f_X8_meet N x1 x2 M5 (fun (r6 : Int32) (M7 : zMem) => ((¬ r6 = 0 → ((x3 < (M7.1 47 19) → ((¬ x4 = 0 → ((¬ x4 = (1 : Int32) → (vp_in x3 100 ∧ Q (zrd M7 60 x3) M7)) ∧ (x4 = (1 : Int32) → (vp_in x3 100 ∧ Q (zrd M7 58 x3) M7)))) ∧ (x4 = 0 → (vp_in x3 100 ∧ Q (zrd M7 57 x3) M7)))) ∧ (¬ x3 < (M7.1 47 19) → Q (-9 : Int32) M7))) ∧ (r6 = 0 → Q (-4 : Int32) M7))))) ∧ (r4 = 0 → Q (-1 : Int32) M5)))))))))))
def f_X8_kindOf_b99 (N : Nat) (k15 : Int32 → Int32 → Int32 → Int32 → Int32 → zMem → Prop) (x1 : Int32) (x2 : Int32) (x3 : Int32) (x4 : Int32) (x5 : Int32) (x6 : Int32) (x7 : Int32) (x8 : Int32) (M : zMem) (Q : Int32 → zMem → Prop) : Prop :=
  (∀ v1 : Int32, v1 = x8 + (1 : Int32) → k15 x4 x5 x6 x7 v1 M)
def f_X8_kindOf_b96 (N : Nat) (k15 : Int32 → Int32 → Int32 → Int32 → Int32 → zMem → Prop) (x1 : Int32) (x2 : Int32) (x3 : Int32) (x4 : Int32) (x5 : Int32) (x7 : Int32) (x8 : Int32) (s0 : Int32) (s1 : Int32) (M : zMem) (Q : Int32 → zMem → Prop) : Prop :=
  (∀ v7 : Int32, v7 = s0 + s1 → f_X8_kindOf_b99 N k15 x1 x2 x3 x4 x5 v7 x7 x8 M Q)
def f_X8_kindOf_b81 (N : Nat) (k15 : Int32 → Int32 → Int32 → Int32 → Int32 → zMem → Prop) (x1 : Int32) (x2 : Int32) (x3 : Int32) (x4 : Int32) (x6 : Int32) (x7 : Int32) (x8 : Int32) (x9 : Int32) (s0 : Int32) (s1 : Int32) (M : zMem) (Q : Int32 → zMem → Prop) : Prop :=
  (∀ v6 : Int32, v6 = s0 + s1 → ((0 ≤ x9 → f_X8_kindOf_b96 N k15 x1 x2 x3 x4 v6 x7 x8 x6 (0 : Int32) M Q) ∧ (¬ 0 ≤ x9 → f_X8_kindOf_b96 N k15 x1 x2 x3 x4 v6 x7 x8 x6 (1 : Int32) M Q)))
def f_X8_kindOf_b15 (N : Nat) (k15 : Int32 → Int32 → Int32 → Int32 → Int32 → zMem → Prop) (x1 : Int32) (x2 : Int32) (x3 : Int32) (x4 : Int32) (x5 : Int32) (x6 : Int32) (x7 : Int32) (x8 : Int32) (M : zMem) (Q : Int32 → zMem → Prop) : Prop :=
  (((M.1 47 19) ≤ x8 → ((x7 = 0 → ((x5 = x4 → Q (1 : Int32) M) ∧ (¬ x5 = x4 → ((¬ x6 = x4 → (((12 : Int32) ≤ x4 → Q (3 : Int32) M) ∧ (¬ (12 : Int32) ≤ x4 → Q (2 : Int32) M))) ∧ (x6 = x4 → Q (1 : Int32) M))))) ∧ (¬ x7 = 0 → Q (0 : Int32) M))) ∧ (¬ (M.1 47 19) ≤ x8 → (vp_in x8 100 ∧ ((¬ (zrd M 60 x8) = x3 → f_X8_kindOf_b99 N k15 x1 x2 x3 x4 x5 x6 x7 x8 M Q) ∧ ((zrd M 60 x8) = x3 → (∀ v2 : Int32, v2 = x4 + (1 : Int32) →  (vp_in x8 100 ∧  (∀ v3 : Int32, v3 = zrd M 59 x8 →  (vp_in x8 100 ∧  (vp_in x8 100 ∧  (f_X8_turnOf N x1 (zrd M 57 x8) x2 (zrd M 58 x8) M (fun (r4 : Int32) (M5 : zMem) => ((r4 ≤ 0 → f_X8_kindOf_b81 N k15 x1 x2 x3 v2 x6 v3 x8 r4 x5 (0 : Int32) M5 Q) ∧ (¬ r4 ≤ 0 → f_X8_kindOf_b81 N k15 x1 x2 x3 v2 x6 v3 x8 r4 x5 (1 : Int32) M5 Q))))))))))))))
def f_X8_kindOf_l15 (N : Nat) (x1 : Int32) (x2 : Int32) (x3 : Int32) (Q : Int32 → zMem → Prop) : Nat → Int32 → Int32 → Int32 → Int32 → Int32 → zMem → Prop
  | 0 => fun _ _ _ _ _ _ => False
  | n + 1 => fun x4 x5 x6 x7 x8 M => f_X8_kindOf_b15 N  (f_X8_kindOf_l15 N x1 x2 x3 Q n) x1 x2 x3 x4 x5 x6 x7 x8 M Q
def f_X8_kindOf (N : Nat) (x1 : Int32) (x2 : Int32) (x3 : Int32) (M : zMem) (Q : Int32 → zMem → Prop) : Prop :=
  f_X8_kindOf_l15 N x1 x2 x3 Q N (0 : Int32) (0 : Int32) (0 : Int32) (0 : Int32) (0 : Int32) M
def f_X8_ofSpot_b103 (N : Nat) (k12 : Int32 → Int32 → Int32 → Int32 → zMem → Prop) (x1 : Int32) (x2 : Int32) (x3 : Int32) (x4 : Int32) (x5 : Int32) (x6 : Int32) (M : zMem) (Q : Int32 → zMem → Prop) : Prop :=
  (∀ v1 : Int32, v1 = x6 + (1 : Int32) → k12 x3 x4 x5 v1 M)
def f_X8_ofSpot_b101 (N : Nat) (k12 : Int32 → Int32 → Int32 → Int32 → zMem → Prop) (x1 : Int32) (x2 : Int32) (x3 : Int32) (x4 : Int32) (x6 : Int32) (s0 : Int32) (M : zMem) (Q : Int32 → zMem → Prop) : Prop :=
  f_X8_ofSpot_b103 N k12 x1 x2 x3 x4 s0 x6 M Q
def f_X8_ofSpot_b79 (N : Nat) (k12 : Int32 → Int32 → Int32 → Int32 → zMem → Prop) (x1 : Int32) (x2 : Int32) (x3 : Int32) (x5 : Int32) (x6 : Int32) (x7 : Int32) (s0 : Int32) (M : zMem) (Q : Int32 → zMem → Prop) : Prop :=
  (f_X8_to N x7 M (fun (r5 : Int32) (M6 : zMem) => ((r5 ≤ x5 → f_X8_ofSpot_b101 N k12 x1 x2 x3 s0 x6 x5 M6 Q) ∧ (¬ r5 ≤ x5 → (f_X8_to N x7 M6 (fun (r7 : Int32) (M8 : zMem) => f_X8_ofSpot_b101 N k12 x1 x2 x3 s0 x6 r7 M8 Q))))))
def f_X8_ofSpot_b54 (N : Nat) (k12 : Int32 → Int32 → Int32 → Int32 → zMem → Prop) (x1 : Int32) (x2 : Int32) (x3 : Int32) (x4 : Int32) (x5 : Int32) (x6 : Int32) (s0 : Int32) (M : zMem) (Q : Int32 → zMem → Prop) : Prop :=
  (∀ v2 : Int32, v2 = x3 + (1 : Int32) →  (f_X8_from N s0 M (fun (r3 : Int32) (M4 : zMem) => ((x4 ≤ r3 → f_X8_ofSpot_b79 N k12 x1 x2 v2 x5 x6 s0 x4 M4 Q) ∧ (¬ x4 ≤ r3 → (f_X8_from N s0 M4 (fun (r9 : Int32) (M10 : zMem) => f_X8_ofSpot_b79 N k12 x1 x2 v2 x5 x6 s0 r9 M10 Q)))))))
def f_X8_ofSpot_b12 (N : Nat) (k12 : Int32 → Int32 → Int32 → Int32 → zMem → Prop) (x1 : Int32) (x2 : Int32) (x3 : Int32) (x4 : Int32) (x5 : Int32) (x6 : Int32) (M : zMem) (Q : Int32 → zMem → Prop) : Prop :=
  (((M.1 47 19) ≤ x6 → ((¬ x2 = (1 : Int32) → ((¬ (x2 - x2 / (2 : Int32) * (2 : Int32)) = 0 → Q x5 M) ∧ ((x2 - x2 / (2 : Int32) * (2 : Int32)) = 0 → Q x4 M))) ∧ (x2 = (1 : Int32) → Q x3 M))) ∧ (¬ (M.1 47 19) ≤ x6 → (vp_in x6 100 ∧ ((¬ (zrd M 60 x6) = x1 → f_X8_ofSpot_b103 N k12 x1 x2 x3 x4 x5 x6 M Q) ∧ ((zrd M 60 x6) = x1 → (((4 : Int32) ≤ x2 → (vp_in x6 100 ∧ f_X8_ofSpot_b54 N k12 x1 x2 x3 x4 x5 x6 (zrd M 58 x6) M Q)) ∧ (¬ (4 : Int32) ≤ x2 → (vp_in x6 100 ∧ f_X8_ofSpot_b54 N k12 x1 x2 x3 x4 x5 x6 (zrd M 57 x6) M Q))))))))
def f_X8_ofSpot_l12 (N : Nat) (x1 : Int32) (x2 : Int32) (Q : Int32 → zMem → Prop) : Nat → Int32 → Int32 → Int32 → Int32 → zMem → Prop
  | 0 => fun _ _ _ _ _ => False
  | n + 1 => fun x3 x4 x5 x6 M => f_X8_ofSpot_b12 N  (f_X8_ofSpot_l12 N x1 x2 Q n) x1 x2 x3 x4 x5 x6 M Q
def f_X8_ofSpot (N : Nat) (x1 : Int32) (x2 : Int32) (M : zMem) (Q : Int32 → zMem → Prop) : Prop :=
  f_X8_ofSpot_l12 N x1 x2 Q N (0 : Int32) (33 : Int32) (-1 : Int32) (0 : Int32) M
def f_X8_spot (N : Nat) (x1 : Int32) (x2 : Int32) (x3 : Int32) (x4 : Int32) (M : zMem) (Q : Int32 → zMem → Prop) : Prop :=
  (∀ M1 : zMem, M1 = zwI M 47 0 (0 : Int32) →  (f_X8_arePair N x1 x2 M1 (fun (r2 : Int32) (M3 : zMem) => ((r2 = 0 → Q (-1 : Int32) M3) ∧ (¬ r2 = 0 → ((x3 < 0 → Q (-1 : Int32) M3) ∧ (¬ x3 < 0 → (f_X8_in N x4 (0 : Int32) (5 : Int32) M3 (fun (r4 : Int32) (M5 : zMem) => ((¬ r4 = 0 → (f_X8_meet N x1 x2 M5 (fun (r6 : Int32) (M7 : zMem) => ((¬ r6 = 0 → ((x3 < (M7.1 47 24) → ((¬ x4 = 0 → (f_X8_ofSpot N x3 x4 M7 (fun (r8 : Int32) (M9 : zMem) => Q r8 M9))) ∧ (x4 = 0 → (f_X8_kindOf N x1 x2 x3 M7 (fun (r10 : Int32) (M11 : zMem) => Q r10 M11))))) ∧ (¬ x3 < (M7.1 47 24) → Q (-9 : Int32) M7))) ∧ (r6 = 0 → Q (-4 : Int32) M7))))) ∧ (r4 = 0 → Q (-1 : Int32) M5)))))))))))
def f_X8_spotsOf (N : Nat) (x1 : Int32) (x2 : Int32) (M : zMem) (Q : Int32 → zMem → Prop) : Prop :=
  ((¬ x1 = x2 → (f_X8_meet N x1 x2 M (fun (r1 : Int32) (M2 : zMem) => ((r1 = 0 → Q (101 : Int32) M2) ∧ (¬ r1 = 0 → Q (M2.1 47 24) M2))))) ∧ (x1 = x2 → Q (0 : Int32) M))
def f_X8_busiest_b102 (N : Nat) (k24 : Int32 → Int32 → Int32 → zMem → Prop) (k39 : Int32 → Int32 → Int32 → zMem → Prop) (x1 : Int32) (x3 : Int32) (x4 : Int32) (x5 : Int32) (s0 : Int32) (M : zMem) (Q : Int32 → zMem → Prop) : Prop :=
  (∀ v8 : Int32, v8 = x5 + (1 : Int32) → k39 s0 x3 v8 M)
def f_X8_busiest_b89 (N : Nat) (k24 : Int32 → Int32 → Int32 → zMem → Prop) (k39 : Int32 → Int32 → Int32 → zMem → Prop) (x1 : Int32) (x2 : Int32) (x4 : Int32) (x5 : Int32) (x6 : Int32) (s0 : Int32) (M : zMem) (Q : Int32 → zMem → Prop) : Prop :=
  ((x6 ≤ x2 → f_X8_busiest_b102 N k24 k39 x1 s0 x4 x5 x2 M Q) ∧ (¬ x6 ≤ x2 → f_X8_busiest_b102 N k24 k39 x1 s0 x4 x5 x6 M Q))
def f_X8_busiest_b39 (N : Nat) (k24 : Int32 → Int32 → Int32 → zMem → Prop) (k39 : Int32 → Int32 → Int32 → zMem → Prop) (x1 : Int32) (x4 : Int32) (x2 : Int32) (x3 : Int32) (x5 : Int32) (M : zMem) (Q : Int32 → zMem → Prop) : Prop :=
  (((M.1 47 1) ≤ x5 → (∀ v5 : Int32, v5 = x4 + (1 : Int32) → k24 x2 x3 v5 M)) ∧ (¬ (M.1 47 1) ≤ x5 → (f_X8_spotsOf N x4 x5 M (fun (r6 : Int32) (M7 : zMem) => ((r6 ≤ x2 → f_X8_busiest_b89 N k24 k39 x1 x2 x4 x5 r6 x3 M7 Q) ∧ (¬ r6 ≤ x2 → ((¬ x1 = 0 → ((¬ x1 = (1 : Int32) → f_X8_busiest_b89 N k24 k39 x1 x2 x4 x5 r6 r6 M7 Q) ∧ (x1 = (1 : Int32) → f_X8_busiest_b89 N k24 k39 x1 x2 x4 x5 r6 x5 M7 Q))) ∧ (x1 = 0 → f_X8_busiest_b89 N k24 k39 x1 x2 x4 x5 r6 x4 M7 Q))))))))
def f_X8_busiest_l39 (N : Nat) (k24 : Int32 → Int32 → Int32 → zMem → Prop) (x1 : Int32) (x4 : Int32) (Q : Int32 → zMem → Prop) : Nat → Int32 → Int32 → Int32 → zMem → Prop
  | 0 => fun _ _ _ _ => False
  | n + 1 => fun x2 x3 x5 M => f_X8_busiest_b39 N k24 (f_X8_busiest_l39 N k24 x1 x4 Q n) x1 x4 x2 x3 x5 M Q
def f_X8_busiest_b24 (N : Nat) (k24 : Int32 → Int32 → Int32 → zMem → Prop) (x1 : Int32) (x2 : Int32) (x3 : Int32) (x4 : Int32) (M : zMem) (Q : Int32 → zMem → Prop) : Prop :=
  (((M.1 47 1) ≤ x4 → Q x3 M) ∧ (¬ (M.1 47 1) ≤ x4 → (∀ v4 : Int32, v4 = x4 + (1 : Int32) → f_X8_busiest_l39 N k24 x1 x4 Q N x2 x3 v4 M)))
def f_X8_busiest_l24 (N : Nat) (x1 : Int32) (Q : Int32 → zMem → Prop) : Nat → Int32 → Int32 → Int32 → zMem → Prop
  | 0 => fun _ _ _ _ => False
  | n + 1 => fun x2 x3 x4 M => f_X8_busiest_b24 N  (f_X8_busiest_l24 N x1 Q n) x1 x2 x3 x4 M Q
def f_X8_busiest (N : Nat) (x1 : Int32) (M : zMem) (Q : Int32 → zMem → Prop) : Prop :=
  (∀ M1 : zMem, M1 = zwI M 47 0 (0 : Int32) →  (f_X8_in N x1 (0 : Int32) (2 : Int32) M1 (fun (r2 : Int32) (M3 : zMem) => ((¬ r2 = 0 → f_X8_busiest_l24 N x1 Q N (-1 : Int32) (-9 : Int32) (0 : Int32) M3) ∧ (r2 = 0 → Q (-1 : Int32) M3)))))
def f_X8_notes_b51 (N : Nat) (k51 : Int32 → zMem → Prop) (x1 : Int32) (M : zMem) (Q : zMem → Prop) : Prop :=
  (((32 : Int32) ≤ x1 → (∀ M1 : zMem, M1 = zwI M 47 4 ((M.1 47 4) + (1 : Int32)) →  (∀ M2 : zMem, M2 = zwI M1 47 11 (0 : Int32) → Q M2))) ∧ (¬ (32 : Int32) ≤ x1 → (vp_in x1 32 ∧  (vp_in (((32 : Int32) * (M.1 47 4)) + x1) 320 ∧  (∀ M3 : zMem, M3 = zst M 49 (((32 : Int32) * (M.1 47 4)) + x1) (zrd M 48 x1) →  (∀ v4 : Int32, v4 = x1 + (1 : Int32) → k51 v4 M3))))))
def f_X8_notes_l51 (N : Nat)  (Q : zMem → Prop) : Nat → Int32 → zMem → Prop
  | 0 => fun _ _ => False
  | n + 1 => fun x1 M => f_X8_notes_b51 N  (f_X8_notes_l51 N  Q n)  x1 M Q
def f_X8_notes_b49 (N : Nat)  (M : zMem) (Q : zMem → Prop) : Prop :=
  f_X8_notes_l51 N  Q N (0 : Int32) M
def f_X8_notes_b11 (N : Nat) (k11 : Int32 → zMem → Prop) (x1 : Int32) (M : zMem) (Q : zMem → Prop) : Prop :=
  (((288 : Int32) ≤ x1 → (∀ M5 : zMem, M5 = zwI M 47 4 ((M.1 47 4) - (1 : Int32)) → f_X8_notes_b49 N  M5 Q)) ∧ (¬ (288 : Int32) ≤ x1 → (vp_in (x1 + (32 : Int32)) 320 ∧  (vp_in x1 320 ∧  (∀ M6 : zMem, M6 = zst M 49 x1 (zrd M 49 (x1 + (32 : Int32))) →  (∀ v7 : Int32, v7 = x1 + (1 : Int32) → k11 v7 M6))))))
def f_X8_notes_l11 (N : Nat)  (Q : zMem → Prop) : Nat → Int32 → zMem → Prop
  | 0 => fun _ _ => False
  | n + 1 => fun x1 M => f_X8_notes_b11 N  (f_X8_notes_l11 N  Q n)  x1 M Q
def f_X8_notes (N : Nat)  (M : zMem) (Q : zMem → Prop) : Prop :=
  ((¬ (M.1 47 4) = (10 : Int32) → f_X8_notes_b49 N  M Q) ∧ ((M.1 47 4) = (10 : Int32) → f_X8_notes_l11 N  Q N (0 : Int32) M))
def f_X8_moves_b85 (N : Nat) (x3 : Int32) (x4 : Int32) (x5 : Int32) (M : zMem) (Q : Int32 → zMem → Prop) : Prop :=
  (f_X8_notes N  M (fun (M12 : zMem) =>  (vp_in x5 32 ∧  (∀ M13 : zMem, M13 = zst M12 48 x5 x3 →  (vp_in (x5 + (1 : Int32)) 32 ∧  (∀ M14 : zMem, M14 = zst M13 48 (x5 + (1 : Int32)) x4 → Q (1 : Int32) M14))))))
def f_X8_moves (N : Nat) (x1 : Int32) (x2 : Int32) (x3 : Int32) (x4 : Int32) (M : zMem) (Q : Int32 → zMem → Prop) : Prop :=
  (∀ M1 : zMem, M1 = zwI M 47 0 (0 : Int32) →  (f_X8_isArc N x1 M1 (fun (r2 : Int32) (M3 : zMem) => ((r2 = 0 → Q (-1 : Int32) M3) ∧ (¬ r2 = 0 → (f_X8_in N x2 (0 : Int32) (3 : Int32) M3 (fun (r4 : Int32) (M5 : zMem) => ((r4 = 0 → Q (-1 : Int32) M5) ∧ (¬ r4 = 0 → (f_X8_in N x3 (-9 : Int32) (9 : Int32) M5 (fun (r6 : Int32) (M7 : zMem) => ((r6 = 0 → Q (-1 : Int32) M7) ∧ (¬ r6 = 0 → (f_X8_in N x4 (-9 : Int32) (9 : Int32) M7 (fun (r8 : Int32) (M9 : zMem) => ((¬ r8 = 0 → (∀ v10 : Int32, v10 = ((8 : Int32) * x1) + ((2 : Int32) * x2) →  (vp_in v10 32 ∧ ((¬ (zrd M9 48 v10) = x3 → f_X8_moves_b85 N x3 x4 v10 M9 Q) ∧ ((zrd M9 48 v10) = x3 → (vp_in (v10 + (1 : Int32)) 32 ∧ ((¬ (zrd M9 48 (v10 + (1 : Int32))) = x4 → f_X8_moves_b85 N x3 x4 v10 M9 Q) ∧ ((zrd M9 48 (v10 + (1 : Int32))) = x4 → Q (-2 : Int32) M9)))))))) ∧ (r8 = 0 → Q (-1 : Int32) M9)))))))))))))))))
def f_X8_shifts_b126 (N : Nat) (k126 : Int32 → zMem → Prop) (x1 : Int32) (x2 : Int32) (x3 : Int32) (x4 : Int32) (M : zMem) (Q : Int32 → zMem → Prop) : Prop :=
  (((4 : Int32) ≤ x4 → Q (1 : Int32) M) ∧ (¬ (4 : Int32) ≤ x4 → (vp_in (((8 : Int32) * x1) + ((2 : Int32) * x4)) 32 ∧  (vp_in (((8 : Int32) * x1) + ((2 : Int32) * x4)) 32 ∧  (∀ M10 : zMem, M10 = zst M 48 (((8 : Int32) * x1) + ((2 : Int32) * x4)) ((zrd M 48 (((8 : Int32) * x1) + ((2 : Int32) * x4))) + x2) →  (vp_in ((((8 : Int32) * x1) + ((2 : Int32) * x4)) + (1 : Int32)) 32 ∧  (vp_in ((((8 : Int32) * x1) + ((2 : Int32) * x4)) + (1 : Int32)) 32 ∧  (∀ M11 : zMem, M11 = zst M10 48 ((((8 : Int32) * x1) + ((2 : Int32) * x4)) + (1 : Int32)) ((zrd M10 48 ((((8 : Int32) * x1) + ((2 : Int32) * x4)) + (1 : Int32))) + x3) →  (∀ v12 : Int32, v12 = x4 + (1 : Int32) → k126 v12 M11)))))))))
def f_X8_shifts_l126 (N : Nat) (x1 : Int32) (x2 : Int32) (x3 : Int32) (Q : Int32 → zMem → Prop) : Nat → Int32 → zMem → Prop
  | 0 => fun _ _ => False
  | n + 1 => fun x4 M => f_X8_shifts_b126 N  (f_X8_shifts_l126 N x1 x2 x3 Q n) x1 x2 x3 x4 M Q
def f_X8_shifts_b119 (N : Nat) (x1 : Int32) (x2 : Int32) (x3 : Int32) (M : zMem) (Q : Int32 → zMem → Prop) : Prop :=
  (f_X8_notes N  M (fun (M9 : zMem) => f_X8_shifts_l126 N x1 x2 x3 Q N (0 : Int32) M9))
def f_X8_shifts_b40 (N : Nat) (k40 : Int32 → zMem → Prop) (x1 : Int32) (x2 : Int32) (x3 : Int32) (x4 : Int32) (M : zMem) (Q : Int32 → zMem → Prop) : Prop :=
  (((4 : Int32) ≤ x4 → ((¬ x2 = 0 → f_X8_shifts_b119 N x1 x2 x3 M Q) ∧ (x2 = 0 → ((¬ x3 = 0 → f_X8_shifts_b119 N x1 x2 x3 M Q) ∧ (x3 = 0 → Q (-2 : Int32) M))))) ∧ (¬ (4 : Int32) ≤ x4 → (vp_in (((8 : Int32) * x1) + ((2 : Int32) * x4)) 32 ∧  (f_X8_in N ((zrd M 48 (((8 : Int32) * x1) + ((2 : Int32) * x4))) + x2) (-9 : Int32) (9 : Int32) M (fun (r13 : Int32) (M14 : zMem) => ((r13 = 0 → Q (-1 : Int32) M14) ∧ (¬ r13 = 0 → (vp_in ((((8 : Int32) * x1) + ((2 : Int32) * x4)) + (1 : Int32)) 32 ∧  (f_X8_in N ((zrd M14 48 ((((8 : Int32) * x1) + ((2 : Int32) * x4)) + (1 : Int32))) + x3) (-9 : Int32) (9 : Int32) M14 (fun (r15 : Int32) (M16 : zMem) => ((¬ r15 = 0 → (∀ v17 : Int32, v17 = x4 + (1 : Int32) → k40 v17 M16)) ∧ (r15 = 0 → Q (-1 : Int32) M16))))))))))))
def f_X8_shifts_l40 (N : Nat) (x1 : Int32) (x2 : Int32) (x3 : Int32) (Q : Int32 → zMem → Prop) : Nat → Int32 → zMem → Prop
  | 0 => fun _ _ => False
  | n + 1 => fun x4 M => f_X8_shifts_b40 N  (f_X8_shifts_l40 N x1 x2 x3 Q n) x1 x2 x3 x4 M Q
def f_X8_shifts (N : Nat) (x1 : Int32) (x2 : Int32) (x3 : Int32) (M : zMem) (Q : Int32 → zMem → Prop) : Prop :=
  (∀ M1 : zMem, M1 = zwI M 47 0 (0 : Int32) →  (f_X8_isArc N x1 M1 (fun (r2 : Int32) (M3 : zMem) => ((r2 = 0 → Q (-1 : Int32) M3) ∧ (¬ r2 = 0 → (f_X8_in N x2 (-18 : Int32) (18 : Int32) M3 (fun (r4 : Int32) (M5 : zMem) => ((r4 = 0 → Q (-1 : Int32) M5) ∧ (¬ r4 = 0 → (f_X8_in N x3 (-18 : Int32) (18 : Int32) M5 (fun (r6 : Int32) (M7 : zMem) => ((¬ r6 = 0 → f_X8_shifts_l40 N x1 x2 x3 Q N (0 : Int32) M7) ∧ (r6 = 0 → Q (-1 : Int32) M7)))))))))))))
def f_X8_reverses_b21 (N : Nat) (k21 : Int32 → zMem → Prop) (x1 : Int32) (x2 : Int32) (M : zMem) (Q : Int32 → zMem → Prop) : Prop :=
  (((4 : Int32) ≤ x2 → Q (1 : Int32) M) ∧ (¬ (4 : Int32) ≤ x2 → (∀ v6 : Int32, v6 = ((8 : Int32) * x1) + x2 →  (∀ v7 : Int32, v7 = ((((8 : Int32) * x1) + (6 : Int32)) - ((x2 / (2 : Int32)) * (2 : Int32))) + (x2 - x2 / (2 : Int32) * (2 : Int32)) →  (vp_in v6 32 ∧  (∀ v8 : Int32, v8 = zrd M 48 v6 →  (vp_in v7 32 ∧  (vp_in v6 32 ∧  (∀ M9 : zMem, M9 = zst M 48 v6 (zrd M 48 v7) →  (vp_in v7 32 ∧  (∀ M10 : zMem, M10 = zst M9 48 v7 v8 →  (∀ v11 : Int32, v11 = x2 + (1 : Int32) → k21 v11 M10))))))))))))
def f_X8_reverses_l21 (N : Nat) (x1 : Int32) (Q : Int32 → zMem → Prop) : Nat → Int32 → zMem → Prop
  | 0 => fun _ _ => False
  | n + 1 => fun x2 M => f_X8_reverses_b21 N  (f_X8_reverses_l21 N x1 Q n) x1 x2 M Q
def f_X8_reverses (N : Nat) (x1 : Int32) (M : zMem) (Q : Int32 → zMem → Prop) : Prop :=
  (∀ M1 : zMem, M1 = zwI M 47 0 (0 : Int32) →  (f_X8_isArc N x1 M1 (fun (r2 : Int32) (M3 : zMem) => ((¬ r2 = 0 → (f_X8_notes N  M3 (fun (M5 : zMem) => f_X8_reverses_l21 N x1 Q N (0 : Int32) M5))) ∧ (r2 = 0 → Q (-1 : Int32) M3)))))
def f_X8_undo_b27 (N : Nat) (k27 : Int32 → zMem → Prop) (x1 : Int32) (M : zMem) (Q : Int32 → zMem → Prop) : Prop :=
  (((32 : Int32) ≤ x1 → (∀ M3 : zMem, M3 = zwI M 47 11 (0 : Int32) → Q (M3.1 47 4) M3)) ∧ (¬ (32 : Int32) ≤ x1 → (vp_in (((32 : Int32) * (M.1 47 4)) + x1) 320 ∧  (vp_in x1 32 ∧  (∀ M4 : zMem, M4 = zst M 48 x1 (zrd M 49 (((32 : Int32) * (M.1 47 4)) + x1)) →  (∀ v5 : Int32, v5 = x1 + (1 : Int32) → k27 v5 M4))))))
def f_X8_undo_l27 (N : Nat)  (Q : Int32 → zMem → Prop) : Nat → Int32 → zMem → Prop
  | 0 => fun _ _ => False
  | n + 1 => fun x1 M => f_X8_undo_b27 N  (f_X8_undo_l27 N  Q n)  x1 M Q
def f_X8_undo (N : Nat)  (M : zMem) (Q : Int32 → zMem → Prop) : Prop :=
  (∀ M1 : zMem, M1 = zwI M 47 0 (0 : Int32) → ((¬ (M1.1 47 4) = 0 → (∀ M2 : zMem, M2 = zwI M1 47 4 ((M1.1 47 4) - (1 : Int32)) → f_X8_undo_l27 N  Q N (0 : Int32) M2)) ∧ ((M1.1 47 4) = 0 → Q (-2 : Int32) M1)))
def f_X8_sees (N : Nat) (x1 : Int32) (x2 : Int32) (M : zMem) (Q : Int32 → zMem → Prop) : Prop :=
  (∀ M1 : zMem, M1 = zwI M 47 0 (0 : Int32) →  (f_X8_isArc N x1 M1 (fun (r2 : Int32) (M3 : zMem) => ((r2 = 0 → Q (-1 : Int32) M3) ∧ (¬ r2 = 0 → (f_X8_in N x2 (0 : Int32) (101 : Int32) M3 (fun (r4 : Int32) (M5 : zMem) => ((¬ r4 = 0 → ((¬ (M5.1 47 7) = (6 : Int32) → (vp_in (M5.1 47 7) 6 ∧  (∀ M6 : zMem, M6 = zst M5 52 (M5.1 47 7) x1 →  (vp_in (M6.1 47 7) 6 ∧  (∀ M7 : zMem, M7 = zst M6 53 (M6.1 47 7) x2 →  (∀ M8 : zMem, M8 = zwI M7 47 7 ((M7.1 47 7) + (1 : Int32)) → Q (M8.1 47 7) M8)))))) ∧ ((M5.1 47 7) = (6 : Int32) → Q (-3 : Int32) M5))) ∧ (r4 = 0 → Q (-1 : Int32) M5)))))))))
def f_X8_forget (N : Nat)  (M : zMem) (Q : Int32 → zMem → Prop) : Prop :=
  (∀ M1 : zMem, M1 = zwI M 47 0 (0 : Int32) →  (∀ v2 : Int32, v2 = M1.1 47 7 →  (∀ M3 : zMem, M3 = zwI M1 47 7 (0 : Int32) → Q v2 M3)))
def f_X8_unseen_b81 (N : Nat) (k9 : Int32 → Int32 → zMem → Prop) (x2 : Int32) (s0 : Int32) (s1 : Int32) (M : zMem) (Q : Int32 → zMem → Prop) : Prop :=
  (∀ v2 : Int32, v2 = s0 ||| s1 →  (∀ v3 : Int32, v3 = x2 + (1 : Int32) → k9 v2 v3 M))
def f_X8_unseen_b69 (N : Nat) (k9 : Int32 → Int32 → zMem → Prop) (x1 : Int32) (x2 : Int32) (x3 : Int32) (M : zMem) (Q : Int32 → zMem → Prop) : Prop :=
  ((x3 = 0 → f_X8_unseen_b81 N k9 x2 x1 (0 : Int32) M Q) ∧ (¬ x3 = 0 → f_X8_unseen_b81 N k9 x2 x1 ((1 : Int32) <<< (x2 &&& 31)) M Q))
def f_X8_unseen_b62 (N : Nat) (k9 : Int32 → Int32 → zMem → Prop) (k22 : Int32 → Int32 → zMem → Prop) (x1 : Int32) (x2 : Int32) (x4 : Int32) (s0 : Int32) (M : zMem) (Q : Int32 → zMem → Prop) : Prop :=
  (∀ v6 : Int32, v6 = x4 + (1 : Int32) → k22 s0 v6 M)
def f_X8_unseen_b22 (N : Nat) (k9 : Int32 → Int32 → zMem → Prop) (k22 : Int32 → Int32 → zMem → Prop) (x1 : Int32) (x2 : Int32) (x3 : Int32) (x4 : Int32) (M : zMem) (Q : Int32 → zMem → Prop) : Prop :=
  (((M.1 47 7) ≤ x4 → f_X8_unseen_b69 N k9 x1 x2 x3 M Q) ∧ (¬ (M.1 47 7) ≤ x4 → ((x3 = 0 → f_X8_unseen_b69 N k9 x1 x2 x3 M Q) ∧ (¬ x3 = 0 → (vp_in x4 6 ∧  (f_X8_spotsOf N x2 (zrd M 52 x4) M (fun (r4 : Int32) (M5 : zMem) =>  (vp_in x4 6 ∧ ((¬ r4 = (zrd M5 53 x4) → f_X8_unseen_b62 N k9 k22 x1 x2 x4 (0 : Int32) M5 Q) ∧ (r4 = (zrd M5 53 x4) → f_X8_unseen_b62 N k9 k22 x1 x2 x4 (1 : Int32) M5 Q))))))))))
def f_X8_unseen_l22 (N : Nat) (k9 : Int32 → Int32 → zMem → Prop) (x1 : Int32) (x2 : Int32) (Q : Int32 → zMem → Prop) : Nat → Int32 → Int32 → zMem → Prop
  | 0 => fun _ _ _ => False
  | n + 1 => fun x3 x4 M => f_X8_unseen_b22 N k9 (f_X8_unseen_l22 N k9 x1 x2 Q n) x1 x2 x3 x4 M Q
def f_X8_unseen_b9 (N : Nat) (k9 : Int32 → Int32 → zMem → Prop) (x1 : Int32) (x2 : Int32) (M : zMem) (Q : Int32 → zMem → Prop) : Prop :=
  (((M.1 47 1) ≤ x2 → Q x1 M) ∧ (¬ (M.1 47 1) ≤ x2 → f_X8_unseen_l22 N k9 x1 x2 Q N (1 : Int32) (0 : Int32) M))
def f_X8_unseen_l9 (N : Nat)  (Q : Int32 → zMem → Prop) : Nat → Int32 → Int32 → zMem → Prop
  | 0 => fun _ _ _ => False
  | n + 1 => fun x1 x2 M => f_X8_unseen_b9 N  (f_X8_unseen_l9 N  Q n)  x1 x2 M Q
def f_X8_unseen (N : Nat)  (M : zMem) (Q : Int32 → zMem → Prop) : Prop :=
  (∀ M1 : zMem, M1 = zwI M 47 0 (0 : Int32) → f_X8_unseen_l9 N  Q N (0 : Int32) (0 : Int32) M1)
def f_X8_keep_b18 (N : Nat) (k18 : Int32 → zMem → Prop) (x1 : Int32) (x2 : Int32) (M : zMem) (Q : Int32 → zMem → Prop) : Prop :=
  (((32 : Int32) ≤ x2 → (vp_in x1 2 ∧  (∀ M4 : zMem, M4 = zst M 51 x1 (vp_nar .boolean (1 : Int32)) → Q (M4.1 47 1) M4))) ∧ (¬ (32 : Int32) ≤ x2 → (vp_in x2 32 ∧  (vp_in (((32 : Int32) * x1) + x2) 64 ∧  (∀ M5 : zMem, M5 = zst M 50 (((32 : Int32) * x1) + x2) (zrd M 48 x2) →  (∀ v6 : Int32, v6 = x2 + (1 : Int32) → k18 v6 M5))))))
def f_X8_keep_l18 (N : Nat) (x1 : Int32) (Q : Int32 → zMem → Prop) : Nat → Int32 → zMem → Prop
  | 0 => fun _ _ => False
  | n + 1 => fun x2 M => f_X8_keep_b18 N  (f_X8_keep_l18 N x1 Q n) x1 x2 M Q
def f_X8_keep (N : Nat) (x1 : Int32) (M : zMem) (Q : Int32 → zMem → Prop) : Prop :=
  (∀ M1 : zMem, M1 = zwI M 47 0 (0 : Int32) →  (f_X8_in N x1 (0 : Int32) (1 : Int32) M1 (fun (r2 : Int32) (M3 : zMem) => ((¬ r2 = 0 → f_X8_keep_l18 N x1 Q N (0 : Int32) M3) ∧ (r2 = 0 → Q (-1 : Int32) M3)))))
def f_X8_back_b30 (N : Nat) (k30 : Int32 → zMem → Prop) (x1 : Int32) (x2 : Int32) (M : zMem) (Q : Int32 → zMem → Prop) : Prop :=
  (((32 : Int32) ≤ x2 → (∀ M4 : zMem, M4 = zwI M 47 11 (0 : Int32) →  (∀ M5 : zMem, M5 = zwI M4 47 4 (0 : Int32) → Q (M5.1 47 1) M5))) ∧ (¬ (32 : Int32) ≤ x2 → (vp_in (((32 : Int32) * x1) + x2) 64 ∧  (vp_in x2 32 ∧  (∀ M6 : zMem, M6 = zst M 48 x2 (zrd M 50 (((32 : Int32) * x1) + x2)) →  (∀ v7 : Int32, v7 = x2 + (1 : Int32) → k30 v7 M6))))))
def f_X8_back_l30 (N : Nat) (x1 : Int32) (Q : Int32 → zMem → Prop) : Nat → Int32 → zMem → Prop
  | 0 => fun _ _ => False
  | n + 1 => fun x2 M => f_X8_back_b30 N  (f_X8_back_l30 N x1 Q n) x1 x2 M Q
def f_X8_back (N : Nat) (x1 : Int32) (M : zMem) (Q : Int32 → zMem → Prop) : Prop :=
  (∀ M1 : zMem, M1 = zwI M 47 0 (0 : Int32) →  (f_X8_in N x1 (0 : Int32) (1 : Int32) M1 (fun (r2 : Int32) (M3 : zMem) => ((¬ r2 = 0 → (vp_in x1 2 ∧ ((¬ (zrd M3 51 x1) = 0 → f_X8_back_l30 N x1 Q N (0 : Int32) M3) ∧ ((zrd M3 51 x1) = 0 → Q (-2 : Int32) M3)))) ∧ (r2 = 0 → Q (-1 : Int32) M3)))))
def f_X8_count (N : Nat) (x1 : Int32) (M : zMem) (Q : Int32 → zMem → Prop) : Prop :=
  (∀ M1 : zMem, M1 = zwI M 47 0 (0 : Int32) → ((x1 = (0 : Int32) → Q (M1.1 47 1) M1) ∧ (x1 = (1 : Int32) → Q (M1.1 47 7) M1) ∧ (x1 = (2 : Int32) → Q (M1.1 47 12) M1) ∧ (x1 = (3 : Int32) → Q (M1.1 47 4) M1) ∧ (x1.toInt < 0 ∨ (3 : Int) < x1.toInt → Q (-1 : Int32) M1)))
