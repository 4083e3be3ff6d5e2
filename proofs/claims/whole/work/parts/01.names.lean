-- ===== PART A: goes FIRST, ahead of the names: the tables' words, and 'selects' of the private methods out of them =====
/-- a private method of a class that the tables say can be made, by its rows of tables_1 -/
def lw_okq (q : MethodName × Nat) : Prop := (q.1.cls ≠ "java/lang/invoke/MethodHandle" ∧ q.1.cls ≠ "java/lang/invoke/VarHandle") ∧ Cond.instantiable q.1.cls q.2 ∈ tables_1 ∧ Cond.privateMethod q.1 ∈ tables_1 ∧ Cond.instanceMethod q.1 ∈ tables_1
theorem lw_p0 : lw_okq (⟨"CurveMeetings$Reader", "adds", "(I)I"⟩, 6) := ⟨⟨by decide +kernel, by decide +kernel⟩, List.mem_of_getElem? (i := 21) (by decide +kernel), List.mem_of_getElem? (i := 210) (by decide +kernel), List.mem_of_getElem? (i := 211) (by decide +kernel)⟩
theorem lw_p1 : lw_okq (⟨"CurveMeetings$Reader", "empties", "()I"⟩, 6) := ⟨⟨by decide +kernel, by decide +kernel⟩, List.mem_of_getElem? (i := 21) (by decide +kernel), List.mem_of_getElem? (i := 218) (by decide +kernel), List.mem_of_getElem? (i := 219) (by decide +kernel)⟩
theorem lw_p2 : lw_okq (⟨"CurveMeetings$Reader", "findFault", "()I"⟩, 6) := ⟨⟨by decide +kernel, by decide +kernel⟩, List.mem_of_getElem? (i := 21) (by decide +kernel), List.mem_of_getElem? (i := 226) (by decide +kernel), List.mem_of_getElem? (i := 227) (by decide +kernel)⟩
theorem lw_p3 : lw_okq (⟨"CurveMeetings$Reader", "takesToken", "(I)Z"⟩, 6) := ⟨⟨by decide +kernel, by decide +kernel⟩, List.mem_of_getElem? (i := 21) (by decide +kernel), List.mem_of_getElem? (i := 230) (by decide +kernel), List.mem_of_getElem? (i := 231) (by decide +kernel)⟩
theorem lw_p4 : lw_okq (⟨"CurveMeetings$Reader", "isFigure", "(I)Z"⟩, 6) := ⟨⟨by decide +kernel, by decide +kernel⟩, List.mem_of_getElem? (i := 21) (by decide +kernel), List.mem_of_getElem? (i := 234) (by decide +kernel), List.mem_of_getElem? (i := 235) (by decide +kernel)⟩
theorem lw_p5 : lw_okq (⟨"CurveMeetings$Reader", "takesNumber", "(I)Z"⟩, 6) := ⟨⟨by decide +kernel, by decide +kernel⟩, List.mem_of_getElem? (i := 21) (by decide +kernel), List.mem_of_getElem? (i := 238) (by decide +kernel), List.mem_of_getElem? (i := 239) (by decide +kernel)⟩
theorem lw_p6 : lw_okq (⟨"CurveMeetings$Reader", "wantsNumber", "()Z"⟩, 6) := ⟨⟨by decide +kernel, by decide +kernel⟩, List.mem_of_getElem? (i := 21) (by decide +kernel), List.mem_of_getElem? (i := 242) (by decide +kernel), List.mem_of_getElem? (i := 243) (by decide +kernel)⟩
theorem lw_p7 : lw_okq (⟨"CurveMeetings$Reader", "opensItem", "()Z"⟩, 6) := ⟨⟨by decide +kernel, by decide +kernel⟩, List.mem_of_getElem? (i := 21) (by decide +kernel), List.mem_of_getElem? (i := 246) (by decide +kernel), List.mem_of_getElem? (i := 247) (by decide +kernel)⟩
theorem lw_p8 : lw_okq (⟨"CurveMeetings$Reader", "takesMinus", "()Z"⟩, 6) := ⟨⟨by decide +kernel, by decide +kernel⟩, List.mem_of_getElem? (i := 21) (by decide +kernel), List.mem_of_getElem? (i := 250) (by decide +kernel), List.mem_of_getElem? (i := 251) (by decide +kernel)⟩
theorem lw_p9 : lw_okq (⟨"CurveMeetings$Reader", "endsItem", "()Z"⟩, 6) := ⟨⟨by decide +kernel, by decide +kernel⟩, List.mem_of_getElem? (i := 21) (by decide +kernel), List.mem_of_getElem? (i := 254) (by decide +kernel), List.mem_of_getElem? (i := 255) (by decide +kernel)⟩
theorem lw_p10 : lw_okq (⟨"CurveMeetings$Arc", "takes", "([II)V"⟩, 5) := ⟨⟨by decide +kernel, by decide +kernel⟩, List.mem_of_getElem? (i := 51) (by decide +kernel), List.mem_of_getElem? (i := 258) (by decide +kernel), List.mem_of_getElem? (i := 259) (by decide +kernel)⟩
theorem lw_p11 : lw_okq (⟨"CurveMeetings$Arc", "halveAll", "()V"⟩, 5) := ⟨⟨by decide +kernel, by decide +kernel⟩, List.mem_of_getElem? (i := 51) (by decide +kernel), List.mem_of_getElem? (i := 265) (by decide +kernel), List.mem_of_getElem? (i := 266) (by decide +kernel)⟩
theorem lw_p12 : lw_okq (⟨"CurveMeetings$Arc", "halve", "(II)V"⟩, 5) := ⟨⟨by decide +kernel, by decide +kernel⟩, List.mem_of_getElem? (i := 51) (by decide +kernel), List.mem_of_getElem? (i := 270) (by decide +kernel), List.mem_of_getElem? (i := 271) (by decide +kernel)⟩
theorem lw_p13 : lw_okq (⟨"CurveMeetings$Arc", "at", "(III)I"⟩, 5) := ⟨⟨by decide +kernel, by decide +kernel⟩, List.mem_of_getElem? (i := 51) (by decide +kernel), List.mem_of_getElem? (i := 274) (by decide +kernel), List.mem_of_getElem? (i := 275) (by decide +kernel)⟩
theorem lw_p14 : lw_okq (⟨"CurveMeetings$Arc", "measureBox", "(II)V"⟩, 5) := ⟨⟨by decide +kernel, by decide +kernel⟩, List.mem_of_getElem? (i := 51) (by decide +kernel), List.mem_of_getElem? (i := 278) (by decide +kernel), List.mem_of_getElem? (i := 279) (by decide +kernel)⟩
theorem lw_p15 : lw_okq (⟨"CurveMeetings$Arc", "measureBand", "(I)V"⟩, 5) := ⟨⟨by decide +kernel, by decide +kernel⟩, List.mem_of_getElem? (i := 51) (by decide +kernel), List.mem_of_getElem? (i := 288) (by decide +kernel), List.mem_of_getElem? (i := 289) (by decide +kernel)⟩
def lw_privs_1 : List (MethodName × Nat) := [(⟨"CurveMeetings$Reader", "adds", "(I)I"⟩, 6), (⟨"CurveMeetings$Reader", "empties", "()I"⟩, 6), (⟨"CurveMeetings$Reader", "findFault", "()I"⟩, 6), (⟨"CurveMeetings$Reader", "takesToken", "(I)Z"⟩, 6), (⟨"CurveMeetings$Reader", "isFigure", "(I)Z"⟩, 6), (⟨"CurveMeetings$Reader", "takesNumber", "(I)Z"⟩, 6), (⟨"CurveMeetings$Reader", "wantsNumber", "()Z"⟩, 6), (⟨"CurveMeetings$Reader", "opensItem", "()Z"⟩, 6), (⟨"CurveMeetings$Reader", "takesMinus", "()Z"⟩, 6), (⟨"CurveMeetings$Reader", "endsItem", "()Z"⟩, 6), (⟨"CurveMeetings$Arc", "takes", "([II)V"⟩, 5), (⟨"CurveMeetings$Arc", "halveAll", "()V"⟩, 5), (⟨"CurveMeetings$Arc", "halve", "(II)V"⟩, 5), (⟨"CurveMeetings$Arc", "at", "(III)I"⟩, 5), (⟨"CurveMeetings$Arc", "measureBox", "(II)V"⟩, 5), (⟨"CurveMeetings$Arc", "measureBand", "(I)V"⟩, 5)]
theorem lw_r1 : ∀ q ∈ lw_privs_1, lw_okq q := List.forall_mem_cons.mpr ⟨lw_p0, List.forall_mem_cons.mpr ⟨lw_p1, List.forall_mem_cons.mpr ⟨lw_p2, List.forall_mem_cons.mpr ⟨lw_p3, List.forall_mem_cons.mpr ⟨lw_p4, List.forall_mem_cons.mpr ⟨lw_p5, List.forall_mem_cons.mpr ⟨lw_p6, List.forall_mem_cons.mpr ⟨lw_p7, List.forall_mem_cons.mpr ⟨lw_p8, List.forall_mem_cons.mpr ⟨lw_p9, List.forall_mem_cons.mpr ⟨lw_p10, List.forall_mem_cons.mpr ⟨lw_p11, List.forall_mem_cons.mpr ⟨lw_p12, List.forall_mem_cons.mpr ⟨lw_p13, List.forall_mem_cons.mpr ⟨lw_p14, List.forall_mem_cons.mpr ⟨lw_p15, fun _ h => absurd h List.not_mem_nil⟩⟩⟩⟩⟩⟩⟩⟩⟩⟩⟩⟩⟩⟩⟩⟩
theorem lw_p16 : lw_okq (⟨"CurveMeetings$Images", "drop", "()V"⟩, 2) := ⟨⟨by decide +kernel, by decide +kernel⟩, List.mem_of_getElem? (i := 97) (by decide +kernel), List.mem_of_getElem? (i := 301) (by decide +kernel), List.mem_of_getElem? (i := 302) (by decide +kernel)⟩
theorem lw_p17 : lw_okq (⟨"CurveMeetings$Meetings", "outdate", "()V"⟩, 13) := ⟨⟨by decide +kernel, by decide +kernel⟩, List.mem_of_getElem? (i := 132) (by decide +kernel), List.mem_of_getElem? (i := 305) (by decide +kernel), List.mem_of_getElem? (i := 306) (by decide +kernel)⟩
theorem lw_p18 : lw_okq (⟨"CurveMeetings", "isArc", "(I)Z"⟩, 7) := ⟨⟨by decide +kernel, by decide +kernel⟩, List.mem_of_getElem? (i := 13) (by decide +kernel), List.mem_of_getElem? (i := 313) (by decide +kernel), List.mem_of_getElem? (i := 314) (by decide +kernel)⟩
theorem lw_p19 : lw_okq (⟨"CurveMeetings", "startChange", "(I)V"⟩, 7) := ⟨⟨by decide +kernel, by decide +kernel⟩, List.mem_of_getElem? (i := 13) (by decide +kernel), List.mem_of_getElem? (i := 337) (by decide +kernel), List.mem_of_getElem? (i := 338) (by decide +kernel)⟩
theorem lw_p20 : lw_okq (⟨"CurveMeetings$History", "adds", "(I[I)V"⟩, 3) := ⟨⟨by decide +kernel, by decide +kernel⟩, List.mem_of_getElem? (i := 78) (by decide +kernel), List.mem_of_getElem? (i := 341) (by decide +kernel), List.mem_of_getElem? (i := 342) (by decide +kernel)⟩
theorem lw_p21 : lw_okq (⟨"CurveMeetings$History", "loseOldest", "()V"⟩, 3) := ⟨⟨by decide +kernel, by decide +kernel⟩, List.mem_of_getElem? (i := 78) (by decide +kernel), List.mem_of_getElem? (i := 345) (by decide +kernel), List.mem_of_getElem? (i := 346) (by decide +kernel)⟩
theorem lw_p22 : lw_okq (⟨"CurveMeetings$Arc", "canShift", "(II)Z"⟩, 5) := ⟨⟨by decide +kernel, by decide +kernel⟩, List.mem_of_getElem? (i := 51) (by decide +kernel), List.mem_of_getElem? (i := 355) (by decide +kernel), List.mem_of_getElem? (i := 356) (by decide +kernel)⟩
theorem lw_p23 : lw_okq (⟨"CurveMeetings$Arc", "shiftAll", "(II)V"⟩, 5) := ⟨⟨by decide +kernel, by decide +kernel⟩, List.mem_of_getElem? (i := 51) (by decide +kernel), List.mem_of_getElem? (i := 360) (by decide +kernel), List.mem_of_getElem? (i := 361) (by decide +kernel)⟩
theorem lw_p24 : lw_okq (⟨"CurveMeetings$Arc", "turnRound", "()V"⟩, 5) := ⟨⟨by decide +kernel, by decide +kernel⟩, List.mem_of_getElem? (i := 51) (by decide +kernel), List.mem_of_getElem? (i := 368) (by decide +kernel), List.mem_of_getElem? (i := 369) (by decide +kernel)⟩
theorem lw_p25 : lw_okq (⟨"CurveMeetings$Arc", "swap", "(II)V"⟩, 5) := ⟨⟨by decide +kernel, by decide +kernel⟩, List.mem_of_getElem? (i := 51) (by decide +kernel), List.mem_of_getElem? (i := 372) (by decide +kernel), List.mem_of_getElem? (i := 373) (by decide +kernel)⟩
theorem lw_p26 : lw_okq (⟨"CurveMeetings", "areTwoArcs", "(II)Z"⟩, 7) := ⟨⟨by decide +kernel, by decide +kernel⟩, List.mem_of_getElem? (i := 13) (by decide +kernel), List.mem_of_getElem? (i := 384) (by decide +kernel), List.mem_of_getElem? (i := 385) (by decide +kernel)⟩
theorem lw_p27 : lw_okq (⟨"CurveMeetings$Arc", "greatest", "(II)I"⟩, 5) := ⟨⟨by decide +kernel, by decide +kernel⟩, List.mem_of_getElem? (i := 51) (by decide +kernel), List.mem_of_getElem? (i := 394) (by decide +kernel), List.mem_of_getElem? (i := 395) (by decide +kernel)⟩
theorem lw_p28 : lw_okq (⟨"CurveMeetings$Arc", "least", "(II)I"⟩, 5) := ⟨⟨by decide +kernel, by decide +kernel⟩, List.mem_of_getElem? (i := 51) (by decide +kernel), List.mem_of_getElem? (i := 398) (by decide +kernel), List.mem_of_getElem? (i := 399) (by decide +kernel)⟩
theorem lw_p29 : lw_okq (⟨"CurveMeetings$Arc", "step", "(III)I"⟩, 5) := ⟨⟨by decide +kernel, by decide +kernel⟩, List.mem_of_getElem? (i := 51) (by decide +kernel), List.mem_of_getElem? (i := 419) (by decide +kernel), List.mem_of_getElem? (i := 420) (by decide +kernel)⟩
theorem lw_p30 : lw_okq (⟨"CurveMeetings$Arc", "areaParts", "()I"⟩, 5) := ⟨⟨by decide +kernel, by decide +kernel⟩, List.mem_of_getElem? (i := 51) (by decide +kernel), List.mem_of_getElem? (i := 453) (by decide +kernel), List.mem_of_getElem? (i := 454) (by decide +kernel)⟩
theorem lw_p31 : lw_okq (⟨"CurveMeetings$Meetings", "find", "([LCurveMeetings$Arc;II)V"⟩, 13) := ⟨⟨by decide +kernel, by decide +kernel⟩, List.mem_of_getElem? (i := 132) (by decide +kernel), List.mem_of_getElem? (i := 466) (by decide +kernel), List.mem_of_getElem? (i := 467) (by decide +kernel)⟩
def lw_privs_2 : List (MethodName × Nat) := [(⟨"CurveMeetings$Images", "drop", "()V"⟩, 2), (⟨"CurveMeetings$Meetings", "outdate", "()V"⟩, 13), (⟨"CurveMeetings", "isArc", "(I)Z"⟩, 7), (⟨"CurveMeetings", "startChange", "(I)V"⟩, 7), (⟨"CurveMeetings$History", "adds", "(I[I)V"⟩, 3), (⟨"CurveMeetings$History", "loseOldest", "()V"⟩, 3), (⟨"CurveMeetings$Arc", "canShift", "(II)Z"⟩, 5), (⟨"CurveMeetings$Arc", "shiftAll", "(II)V"⟩, 5), (⟨"CurveMeetings$Arc", "turnRound", "()V"⟩, 5), (⟨"CurveMeetings$Arc", "swap", "(II)V"⟩, 5), (⟨"CurveMeetings", "areTwoArcs", "(II)Z"⟩, 7), (⟨"CurveMeetings$Arc", "greatest", "(II)I"⟩, 5), (⟨"CurveMeetings$Arc", "least", "(II)I"⟩, 5), (⟨"CurveMeetings$Arc", "step", "(III)I"⟩, 5), (⟨"CurveMeetings$Arc", "areaParts", "()I"⟩, 5), (⟨"CurveMeetings$Meetings", "find", "([LCurveMeetings$Arc;II)V"⟩, 13)]
theorem lw_r2 : ∀ q ∈ lw_privs_2, lw_okq q := List.forall_mem_cons.mpr ⟨lw_p16, List.forall_mem_cons.mpr ⟨lw_p17, List.forall_mem_cons.mpr ⟨lw_p18, List.forall_mem_cons.mpr ⟨lw_p19, List.forall_mem_cons.mpr ⟨lw_p20, List.forall_mem_cons.mpr ⟨lw_p21, List.forall_mem_cons.mpr ⟨lw_p22, List.forall_mem_cons.mpr ⟨lw_p23, List.forall_mem_cons.mpr ⟨lw_p24, List.forall_mem_cons.mpr ⟨lw_p25, List.forall_mem_cons.mpr ⟨lw_p26, List.forall_mem_cons.mpr ⟨lw_p27, List.forall_mem_cons.mpr ⟨lw_p28, List.forall_mem_cons.mpr ⟨lw_p29, List.forall_mem_cons.mpr ⟨lw_p30, List.forall_mem_cons.mpr ⟨lw_p31, fun _ h => absurd h List.not_mem_nil⟩⟩⟩⟩⟩⟩⟩⟩⟩⟩⟩⟩⟩⟩⟩⟩
theorem lw_p32 : lw_okq (⟨"CurveMeetings$Meetings", "isOver", "()Z"⟩, 13) := ⟨⟨by decide +kernel, by decide +kernel⟩, List.mem_of_getElem? (i := 132) (by decide +kernel), List.mem_of_getElem? (i := 473) (by decide +kernel), List.mem_of_getElem? (i := 474) (by decide +kernel)⟩
theorem lw_p33 : lw_okq (⟨"CurveMeetings$Meetings", "adds", "(IIIZ)V"⟩, 13) := ⟨⟨by decide +kernel, by decide +kernel⟩, List.mem_of_getElem? (i := 132) (by decide +kernel), List.mem_of_getElem? (i := 480) (by decide +kernel), List.mem_of_getElem? (i := 481) (by decide +kernel)⟩
theorem lw_p34 : lw_okq (⟨"CurveMeetings$Meetings", "gatherSpots", "()V"⟩, 13) := ⟨⟨by decide +kernel, by decide +kernel⟩, List.mem_of_getElem? (i := 132) (by decide +kernel), List.mem_of_getElem? (i := 484) (by decide +kernel), List.mem_of_getElem? (i := 485) (by decide +kernel)⟩
theorem lw_p35 : lw_okq (⟨"CurveMeetings$Meetings", "gather", "(I)I"⟩, 13) := ⟨⟨by decide +kernel, by decide +kernel⟩, List.mem_of_getElem? (i := 132) (by decide +kernel), List.mem_of_getElem? (i := 488) (by decide +kernel), List.mem_of_getElem? (i := 489) (by decide +kernel)⟩
theorem lw_p36 : lw_okq (⟨"CurveMeetings$Meetings", "hangTogether", "(II)Z"⟩, 13) := ⟨⟨by decide +kernel, by decide +kernel⟩, List.mem_of_getElem? (i := 132) (by decide +kernel), List.mem_of_getElem? (i := 492) (by decide +kernel), List.mem_of_getElem? (i := 493) (by decide +kernel)⟩
theorem lw_p37 : lw_okq (⟨"CurveMeetings$Meetings", "tell", "(I)V"⟩, 13) := ⟨⟨by decide +kernel, by decide +kernel⟩, List.mem_of_getElem? (i := 132) (by decide +kernel), List.mem_of_getElem? (i := 499) (by decide +kernel), List.mem_of_getElem? (i := 500) (by decide +kernel)⟩
theorem lw_p38 : lw_okq (⟨"CurveMeetings$Meetings", "kind", "(I)I"⟩, 13) := ⟨⟨by decide +kernel, by decide +kernel⟩, List.mem_of_getElem? (i := 132) (by decide +kernel), List.mem_of_getElem? (i := 503) (by decide +kernel), List.mem_of_getElem? (i := 504) (by decide +kernel)⟩
theorem lw_p39 : lw_okq (⟨"CurveMeetings$Meetings", "tellStretch", "(I[II)V"⟩, 13) := ⟨⟨by decide +kernel, by decide +kernel⟩, List.mem_of_getElem? (i := 132) (by decide +kernel), List.mem_of_getElem? (i := 507) (by decide +kernel), List.mem_of_getElem? (i := 508) (by decide +kernel)⟩
theorem lw_p40 : lw_okq (⟨"CurveMeetings$Meetings", "tellSpot", "(II)I"⟩, 13) := ⟨⟨by decide +kernel, by decide +kernel⟩, List.mem_of_getElem? (i := 132) (by decide +kernel), List.mem_of_getElem? (i := 525) (by decide +kernel), List.mem_of_getElem? (i := 526) (by decide +kernel)⟩
theorem lw_p41 : lw_okq (⟨"CurveMeetings$Meetings", "countSpots", "([LCurveMeetings$Arc;II)I"⟩, 13) := ⟨⟨by decide +kernel, by decide +kernel⟩, List.mem_of_getElem? (i := 132) (by decide +kernel), List.mem_of_getElem? (i := 533) (by decide +kernel), List.mem_of_getElem? (i := 534) (by decide +kernel)⟩
theorem lw_p42 : lw_okq (⟨"CurveMeetings$Sightings", "adds", "(II)I"⟩, 3) := ⟨⟨by decide +kernel, by decide +kernel⟩, List.mem_of_getElem? (i := 113) (by decide +kernel), List.mem_of_getElem? (i := 542) (by decide +kernel), List.mem_of_getElem? (i := 543) (by decide +kernel)⟩
theorem lw_p43 : lw_okq (⟨"CurveMeetingsModel", "takes", "()V"⟩, 28) := ⟨⟨by decide +kernel, by decide +kernel⟩, List.mem_of_getElem? (i := 573) (by decide +kernel), List.mem_of_getElem? (i := 679) (by decide +kernel), List.mem_of_getElem? (i := 680) (by decide +kernel)⟩
theorem lw_p44 : lw_okq (⟨"CurveMeetingsModel", "isFigure", "(I)Z"⟩, 28) := ⟨⟨by decide +kernel, by decide +kernel⟩, List.mem_of_getElem? (i := 573) (by decide +kernel), List.mem_of_getElem? (i := 683) (by decide +kernel), List.mem_of_getElem? (i := 684) (by decide +kernel)⟩
theorem lw_p45 : lw_okq (⟨"CurveMeetingsModel", "readsArc", "()Z"⟩, 28) := ⟨⟨by decide +kernel, by decide +kernel⟩, List.mem_of_getElem? (i := 573) (by decide +kernel), List.mem_of_getElem? (i := 687) (by decide +kernel), List.mem_of_getElem? (i := 688) (by decide +kernel)⟩
theorem lw_p46 : lw_okq (⟨"CurveMeetingsModel", "isArc", "(I)Z"⟩, 28) := ⟨⟨by decide +kernel, by decide +kernel⟩, List.mem_of_getElem? (i := 573) (by decide +kernel), List.mem_of_getElem? (i := 695) (by decide +kernel), List.mem_of_getElem? (i := 696) (by decide +kernel)⟩
theorem lw_p47 : lw_okq (⟨"CurveMeetingsModel", "lays", "()V"⟩, 28) := ⟨⟨by decide +kernel, by decide +kernel⟩, List.mem_of_getElem? (i := 573) (by decide +kernel), List.mem_of_getElem? (i := 703) (by decide +kernel), List.mem_of_getElem? (i := 704) (by decide +kernel)⟩
def lw_privs_3 : List (MethodName × Nat) := [(⟨"CurveMeetings$Meetings", "isOver", "()Z"⟩, 13), (⟨"CurveMeetings$Meetings", "adds", "(IIIZ)V"⟩, 13), (⟨"CurveMeetings$Meetings", "gatherSpots", "()V"⟩, 13), (⟨"CurveMeetings$Meetings", "gather", "(I)I"⟩, 13), (⟨"CurveMeetings$Meetings", "hangTogether", "(II)Z"⟩, 13), (⟨"CurveMeetings$Meetings", "tell", "(I)V"⟩, 13), (⟨"CurveMeetings$Meetings", "kind", "(I)I"⟩, 13), (⟨"CurveMeetings$Meetings", "tellStretch", "(I[II)V"⟩, 13), (⟨"CurveMeetings$Meetings", "tellSpot", "(II)I"⟩, 13), (⟨"CurveMeetings$Meetings", "countSpots", "([LCurveMeetings$Arc;II)I"⟩, 13), (⟨"CurveMeetings$Sightings", "adds", "(II)I"⟩, 3), (⟨"CurveMeetingsModel", "takes", "()V"⟩, 28), (⟨"CurveMeetingsModel", "isFigure", "(I)Z"⟩, 28), (⟨"CurveMeetingsModel", "readsArc", "()Z"⟩, 28), (⟨"CurveMeetingsModel", "isArc", "(I)Z"⟩, 28), (⟨"CurveMeetingsModel", "lays", "()V"⟩, 28)]
theorem lw_r3 : ∀ q ∈ lw_privs_3, lw_okq q := List.forall_mem_cons.mpr ⟨lw_p32, List.forall_mem_cons.mpr ⟨lw_p33, List.forall_mem_cons.mpr ⟨lw_p34, List.forall_mem_cons.mpr ⟨lw_p35, List.forall_mem_cons.mpr ⟨lw_p36, List.forall_mem_cons.mpr ⟨lw_p37, List.forall_mem_cons.mpr ⟨lw_p38, List.forall_mem_cons.mpr ⟨lw_p39, List.forall_mem_cons.mpr ⟨lw_p40, List.forall_mem_cons.mpr ⟨lw_p41, List.forall_mem_cons.mpr ⟨lw_p42, List.forall_mem_cons.mpr ⟨lw_p43, List.forall_mem_cons.mpr ⟨lw_p44, List.forall_mem_cons.mpr ⟨lw_p45, List.forall_mem_cons.mpr ⟨lw_p46, List.forall_mem_cons.mpr ⟨lw_p47, fun _ h => absurd h List.not_mem_nil⟩⟩⟩⟩⟩⟩⟩⟩⟩⟩⟩⟩⟩⟩⟩⟩
theorem lw_p48 : lw_okq (⟨"CurveMeetingsModel", "placeOf", "(IIIII)I"⟩, 28) := ⟨⟨by decide +kernel, by decide +kernel⟩, List.mem_of_getElem? (i := 573) (by decide +kernel), List.mem_of_getElem? (i := 716) (by decide +kernel), List.mem_of_getElem? (i := 717) (by decide +kernel)⟩
theorem lw_p49 : lw_okq (⟨"CurveMeetingsModel", "at", "(IIII)I"⟩, 28) := ⟨⟨by decide +kernel, by decide +kernel⟩, List.mem_of_getElem? (i := 573) (by decide +kernel), List.mem_of_getElem? (i := 720) (by decide +kernel), List.mem_of_getElem? (i := 721) (by decide +kernel)⟩
theorem lw_p50 : lw_okq (⟨"CurveMeetingsModel", "arePair", "(II)Z"⟩, 28) := ⟨⟨by decide +kernel, by decide +kernel⟩, List.mem_of_getElem? (i := 573) (by decide +kernel), List.mem_of_getElem? (i := 728) (by decide +kernel), List.mem_of_getElem? (i := 729) (by decide +kernel)⟩
theorem lw_p51 : lw_okq (⟨"CurveMeetingsModel", "apartOf", "(IIII)I"⟩, 28) := ⟨⟨by decide +kernel, by decide +kernel⟩, List.mem_of_getElem? (i := 573) (by decide +kernel), List.mem_of_getElem? (i := 732) (by decide +kernel), List.mem_of_getElem? (i := 733) (by decide +kernel)⟩
theorem lw_p52 : lw_okq (⟨"CurveMeetingsModel", "areBoxesApart", "(IIII)Z"⟩, 28) := ⟨⟨by decide +kernel, by decide +kernel⟩, List.mem_of_getElem? (i := 573) (by decide +kernel), List.mem_of_getElem? (i := 736) (by decide +kernel), List.mem_of_getElem? (i := 737) (by decide +kernel)⟩
theorem lw_p53 : lw_okq (⟨"CurveMeetingsModel", "extreme", "(IIIZ)I"⟩, 28) := ⟨⟨by decide +kernel, by decide +kernel⟩, List.mem_of_getElem? (i := 573) (by decide +kernel), List.mem_of_getElem? (i := 740) (by decide +kernel), List.mem_of_getElem? (i := 741) (by decide +kernel)⟩
theorem lw_p54 : lw_okq (⟨"CurveMeetingsModel", "clears", "(IIII)Z"⟩, 28) := ⟨⟨by decide +kernel, by decide +kernel⟩, List.mem_of_getElem? (i := 573) (by decide +kernel), List.mem_of_getElem? (i := 744) (by decide +kernel), List.mem_of_getElem? (i := 745) (by decide +kernel)⟩
theorem lw_p55 : lw_okq (⟨"CurveMeetingsModel", "beyond", "(IIIIZI)I"⟩, 28) := ⟨⟨by decide +kernel, by decide +kernel⟩, List.mem_of_getElem? (i := 573) (by decide +kernel), List.mem_of_getElem? (i := 748) (by decide +kernel), List.mem_of_getElem? (i := 749) (by decide +kernel)⟩
theorem lw_p56 : lw_okq (⟨"CurveMeetingsModel", "bandLow", "(II)J"⟩, 28) := ⟨⟨by decide +kernel, by decide +kernel⟩, List.mem_of_getElem? (i := 573) (by decide +kernel), List.mem_of_getElem? (i := 752) (by decide +kernel), List.mem_of_getElem? (i := 753) (by decide +kernel)⟩
theorem lw_p57 : lw_okq (⟨"CurveMeetingsModel", "side", "(IIIII)J"⟩, 28) := ⟨⟨by decide +kernel, by decide +kernel⟩, List.mem_of_getElem? (i := 573) (by decide +kernel), List.mem_of_getElem? (i := 756) (by decide +kernel), List.mem_of_getElem? (i := 757) (by decide +kernel)⟩
theorem lw_p58 : lw_okq (⟨"CurveMeetingsModel", "bandHigh", "(II)J"⟩, 28) := ⟨⟨by decide +kernel, by decide +kernel⟩, List.mem_of_getElem? (i := 573) (by decide +kernel), List.mem_of_getElem? (i := 763) (by decide +kernel), List.mem_of_getElem? (i := 764) (by decide +kernel)⟩
theorem lw_p59 : lw_okq (⟨"CurveMeetingsModel", "turnOf", "(IIII)I"⟩, 28) := ⟨⟨by decide +kernel, by decide +kernel⟩, List.mem_of_getElem? (i := 573) (by decide +kernel), List.mem_of_getElem? (i := 771) (by decide +kernel), List.mem_of_getElem? (i := 772) (by decide +kernel)⟩
theorem lw_p60 : lw_okq (⟨"CurveMeetingsModel", "stepOf", "(IIII)I"⟩, 28) := ⟨⟨by decide +kernel, by decide +kernel⟩, List.mem_of_getElem? (i := 573) (by decide +kernel), List.mem_of_getElem? (i := 775) (by decide +kernel), List.mem_of_getElem? (i := 776) (by decide +kernel)⟩
theorem lw_p61 : lw_okq (⟨"CurveMeetingsModel", "areCrossed", "(IIII)Z"⟩, 28) := ⟨⟨by decide +kernel, by decide +kernel⟩, List.mem_of_getElem? (i := 573) (by decide +kernel), List.mem_of_getElem? (i := 779) (by decide +kernel), List.mem_of_getElem? (i := 780) (by decide +kernel)⟩
theorem lw_p62 : lw_okq (⟨"CurveMeetingsModel", "isAcross", "(IIII)Z"⟩, 28) := ⟨⟨by decide +kernel, by decide +kernel⟩, List.mem_of_getElem? (i := 573) (by decide +kernel), List.mem_of_getElem? (i := 783) (by decide +kernel), List.mem_of_getElem? (i := 784) (by decide +kernel)⟩
theorem lw_p63 : lw_okq (⟨"CurveMeetingsModel", "bend", "(III)J"⟩, 28) := ⟨⟨by decide +kernel, by decide +kernel⟩, List.mem_of_getElem? (i := 573) (by decide +kernel), List.mem_of_getElem? (i := 791) (by decide +kernel), List.mem_of_getElem? (i := 792) (by decide +kernel)⟩
def lw_privs_4 : List (MethodName × Nat) := [(⟨"CurveMeetingsModel", "placeOf", "(IIIII)I"⟩, 28), (⟨"CurveMeetingsModel", "at", "(IIII)I"⟩, 28), (⟨"CurveMeetingsModel", "arePair", "(II)Z"⟩, 28), (⟨"CurveMeetingsModel", "apartOf", "(IIII)I"⟩, 28), (⟨"CurveMeetingsModel", "areBoxesApart", "(IIII)Z"⟩, 28), (⟨"CurveMeetingsModel", "extreme", "(IIIZ)I"⟩, 28), (⟨"CurveMeetingsModel", "clears", "(IIII)Z"⟩, 28), (⟨"CurveMeetingsModel", "beyond", "(IIIIZI)I"⟩, 28), (⟨"CurveMeetingsModel", "bandLow", "(II)J"⟩, 28), (⟨"CurveMeetingsModel", "side", "(IIIII)J"⟩, 28), (⟨"CurveMeetingsModel", "bandHigh", "(II)J"⟩, 28), (⟨"CurveMeetingsModel", "turnOf", "(IIII)I"⟩, 28), (⟨"CurveMeetingsModel", "stepOf", "(IIII)I"⟩, 28), (⟨"CurveMeetingsModel", "areCrossed", "(IIII)Z"⟩, 28), (⟨"CurveMeetingsModel", "isAcross", "(IIII)Z"⟩, 28), (⟨"CurveMeetingsModel", "bend", "(III)J"⟩, 28)]
theorem lw_r4 : ∀ q ∈ lw_privs_4, lw_okq q := List.forall_mem_cons.mpr ⟨lw_p48, List.forall_mem_cons.mpr ⟨lw_p49, List.forall_mem_cons.mpr ⟨lw_p50, List.forall_mem_cons.mpr ⟨lw_p51, List.forall_mem_cons.mpr ⟨lw_p52, List.forall_mem_cons.mpr ⟨lw_p53, List.forall_mem_cons.mpr ⟨lw_p54, List.forall_mem_cons.mpr ⟨lw_p55, List.forall_mem_cons.mpr ⟨lw_p56, List.forall_mem_cons.mpr ⟨lw_p57, List.forall_mem_cons.mpr ⟨lw_p58, List.forall_mem_cons.mpr ⟨lw_p59, List.forall_mem_cons.mpr ⟨lw_p60, List.forall_mem_cons.mpr ⟨lw_p61, List.forall_mem_cons.mpr ⟨lw_p62, List.forall_mem_cons.mpr ⟨lw_p63, fun _ h => absurd h List.not_mem_nil⟩⟩⟩⟩⟩⟩⟩⟩⟩⟩⟩⟩⟩⟩⟩⟩
theorem lw_p64 : lw_okq (⟨"CurveMeetingsModel", "areaOf", "(I)I"⟩, 28) := ⟨⟨by decide +kernel, by decide +kernel⟩, List.mem_of_getElem? (i := 573) (by decide +kernel), List.mem_of_getElem? (i := 806) (by decide +kernel), List.mem_of_getElem? (i := 807) (by decide +kernel)⟩
theorem lw_p65 : lw_okq (⟨"CurveMeetingsModel", "crossOf", "(III)I"⟩, 28) := ⟨⟨by decide +kernel, by decide +kernel⟩, List.mem_of_getElem? (i := 573) (by decide +kernel), List.mem_of_getElem? (i := 810) (by decide +kernel), List.mem_of_getElem? (i := 811) (by decide +kernel)⟩
theorem lw_p66 : lw_okq (⟨"CurveMeetingsModel", "meet", "(II)Z"⟩, 28) := ⟨⟨by decide +kernel, by decide +kernel⟩, List.mem_of_getElem? (i := 573) (by decide +kernel), List.mem_of_getElem? (i := 818) (by decide +kernel), List.mem_of_getElem? (i := 819) (by decide +kernel)⟩
theorem lw_p67 : lw_okq (⟨"CurveMeetingsModel", "waits", "(II)V"⟩, 28) := ⟨⟨by decide +kernel, by decide +kernel⟩, List.mem_of_getElem? (i := 573) (by decide +kernel), List.mem_of_getElem? (i := 822) (by decide +kernel), List.mem_of_getElem? (i := 823) (by decide +kernel)⟩
theorem lw_p68 : lw_okq (⟨"CurveMeetingsModel", "isTooMany", "(IIII)Z"⟩, 28) := ⟨⟨by decide +kernel, by decide +kernel⟩, List.mem_of_getElem? (i := 573) (by decide +kernel), List.mem_of_getElem? (i := 826) (by decide +kernel), List.mem_of_getElem? (i := 827) (by decide +kernel)⟩
theorem lw_p69 : lw_okq (⟨"CurveMeetingsModel", "laysSpots", "()V"⟩, 28) := ⟨⟨by decide +kernel, by decide +kernel⟩, List.mem_of_getElem? (i := 573) (by decide +kernel), List.mem_of_getElem? (i := 830) (by decide +kernel), List.mem_of_getElem? (i := 831) (by decide +kernel)⟩
theorem lw_p70 : lw_okq (⟨"CurveMeetingsModel", "areNear", "(II)Z"⟩, 28) := ⟨⟨by decide +kernel, by decide +kernel⟩, List.mem_of_getElem? (i := 573) (by decide +kernel), List.mem_of_getElem? (i := 834) (by decide +kernel), List.mem_of_getElem? (i := 835) (by decide +kernel)⟩
theorem lw_p71 : lw_okq (⟨"CurveMeetingsModel", "kindOf", "(III)I"⟩, 28) := ⟨⟨by decide +kernel, by decide +kernel⟩, List.mem_of_getElem? (i := 573) (by decide +kernel), List.mem_of_getElem? (i := 846) (by decide +kernel), List.mem_of_getElem? (i := 847) (by decide +kernel)⟩
theorem lw_p72 : lw_okq (⟨"CurveMeetingsModel", "ofSpot", "(II)I"⟩, 28) := ⟨⟨by decide +kernel, by decide +kernel⟩, List.mem_of_getElem? (i := 573) (by decide +kernel), List.mem_of_getElem? (i := 850) (by decide +kernel), List.mem_of_getElem? (i := 851) (by decide +kernel)⟩
theorem lw_p73 : lw_okq (⟨"CurveMeetingsModel", "spotsOf", "(II)I"⟩, 28) := ⟨⟨by decide +kernel, by decide +kernel⟩, List.mem_of_getElem? (i := 573) (by decide +kernel), List.mem_of_getElem? (i := 858) (by decide +kernel), List.mem_of_getElem? (i := 859) (by decide +kernel)⟩
theorem lw_p74 : lw_okq (⟨"CurveMeetingsModel", "notes", "()V"⟩, 28) := ⟨⟨by decide +kernel, by decide +kernel⟩, List.mem_of_getElem? (i := 573) (by decide +kernel), List.mem_of_getElem? (i := 866) (by decide +kernel), List.mem_of_getElem? (i := 867) (by decide +kernel)⟩
def lw_privs_5 : List (MethodName × Nat) := [(⟨"CurveMeetingsModel", "areaOf", "(I)I"⟩, 28), (⟨"CurveMeetingsModel", "crossOf", "(III)I"⟩, 28), (⟨"CurveMeetingsModel", "meet", "(II)Z"⟩, 28), (⟨"CurveMeetingsModel", "waits", "(II)V"⟩, 28), (⟨"CurveMeetingsModel", "isTooMany", "(IIII)Z"⟩, 28), (⟨"CurveMeetingsModel", "laysSpots", "()V"⟩, 28), (⟨"CurveMeetingsModel", "areNear", "(II)Z"⟩, 28), (⟨"CurveMeetingsModel", "kindOf", "(III)I"⟩, 28), (⟨"CurveMeetingsModel", "ofSpot", "(II)I"⟩, 28), (⟨"CurveMeetingsModel", "spotsOf", "(II)I"⟩, 28), (⟨"CurveMeetingsModel", "notes", "()V"⟩, 28)]
theorem lw_r5 : ∀ q ∈ lw_privs_5, lw_okq q := List.forall_mem_cons.mpr ⟨lw_p64, List.forall_mem_cons.mpr ⟨lw_p65, List.forall_mem_cons.mpr ⟨lw_p66, List.forall_mem_cons.mpr ⟨lw_p67, List.forall_mem_cons.mpr ⟨lw_p68, List.forall_mem_cons.mpr ⟨lw_p69, List.forall_mem_cons.mpr ⟨lw_p70, List.forall_mem_cons.mpr ⟨lw_p71, List.forall_mem_cons.mpr ⟨lw_p72, List.forall_mem_cons.mpr ⟨lw_p73, List.forall_mem_cons.mpr ⟨lw_p74, fun _ h => absurd h List.not_mem_nil⟩⟩⟩⟩⟩⟩⟩⟩⟩⟩⟩
def lw_privs : List (MethodName × Nat) := lw_privs_1 ++ (lw_privs_2 ++ (lw_privs_3 ++ (lw_privs_4 ++ (lw_privs_5))))
def lw_tbl : List Cond := k2_sels lw_privs ++ tables_1
theorem lw_privs_ok : ∀ q ∈ lw_privs, lw_okq q := by
  show ∀ q ∈ lw_privs_1 ++ (lw_privs_2 ++ (lw_privs_3 ++ (lw_privs_4 ++ (lw_privs_5)))), lw_okq q
  exact List.forall_mem_append.mpr ⟨lw_r1, List.forall_mem_append.mpr ⟨lw_r2, List.forall_mem_append.mpr ⟨lw_r3, List.forall_mem_append.mpr ⟨lw_r4, lw_r5⟩⟩⟩⟩
def RX0 : String := "CurveMeetings$Arc"
def TX0 : u_T := fun k => match k with
  | 0 => ("CurveMeetings$Arc", "told", "[I", true)
  | 1 => ("CurveMeetings$Arc", "nodes", "[I", true)
  | 2 => ("CurveMeetings$Arc", "boxes", "[I", true)
  | 3 => ("CurveMeetings$Arc", "bandFrom", "[J", true)
  | _ => ("CurveMeetings$Arc", "bandTo", "[J", true)
def tyX0 : Nat → FieldType := fun k => match k with
  | 0 => .array .int
  | 1 => .array .int
  | 2 => .array .int
  | 3 => .array .long
  | _ => .array .long
abbrev wsX00 : List Cond := u_ws RX0 TX0 5
theorem nmX0 : ∀ a, a < 5 → ∀ b, b < 5 → a ≠ b → (TX0 a).2.1 ≠ (TX0 b).2.1 := by decide +kernel
theorem tyX0_ok : ∀ k, k < 5 → parseFieldDescriptor (TX0 k).2.2.1 = some (tyX0 k) := by decide +kernel
abbrev cX0_init : ByteArray := prog_2_method_1_code
def yX0_init : MethodName := ⟨RX0, "<init>", "()V"⟩
abbrev cX0_takes : ByteArray := prog_2_method_2_code
def yX0_takes : MethodName := ⟨RX0, "takes", "([II)V"⟩
abbrev cX0_canShift : ByteArray := prog_2_method_3_code
def yX0_canShift : MethodName := ⟨RX0, "canShift", "(II)Z"⟩
abbrev cX0_shiftAll : ByteArray := prog_2_method_4_code
def yX0_shiftAll : MethodName := ⟨RX0, "shiftAll", "(II)V"⟩
abbrev cX0_turnRound : ByteArray := prog_2_method_5_code
def yX0_turnRound : MethodName := ⟨RX0, "turnRound", "()V"⟩
abbrev cX0_swap : ByteArray := prog_2_method_6_code
def yX0_swap : MethodName := ⟨RX0, "swap", "(II)V"⟩
abbrev cX0_halveAll : ByteArray := prog_2_method_7_code
def yX0_halveAll : MethodName := ⟨RX0, "halveAll", "()V"⟩
abbrev cX0_halve : ByteArray := prog_2_method_8_code
def yX0_halve : MethodName := ⟨RX0, "halve", "(II)V"⟩
abbrev cX0_measureBox : ByteArray := prog_2_method_9_code
def yX0_measureBox : MethodName := ⟨RX0, "measureBox", "(II)V"⟩
abbrev cX0_measureBand : ByteArray := prog_2_method_10_code
def yX0_measureBand : MethodName := ⟨RX0, "measureBand", "(I)V"⟩
abbrev cX0_at : ByteArray := prog_2_method_11_code
def yX0_at : MethodName := ⟨RX0, "at", "(III)I"⟩
abbrev cX0_step : ByteArray := prog_2_method_12_code
def yX0_step : MethodName := ⟨RX0, "step", "(III)I"⟩
abbrev cX0_least : ByteArray := prog_2_method_13_code
def yX0_least : MethodName := ⟨RX0, "least", "(II)I"⟩
abbrev cX0_greatest : ByteArray := prog_2_method_14_code
def yX0_greatest : MethodName := ⟨RX0, "greatest", "(II)I"⟩
abbrev cX0_areaParts : ByteArray := prog_2_method_15_code
def yX0_areaParts : MethodName := ⟨RX0, "areaParts", "()I"⟩
def RX1 : String := "CurveMeetings$History"
def TX1 : u_T := fun k => match k with
  | 0 => ("CurveMeetings$History", "whose", "[I", true)
  | 1 => ("CurveMeetings$History", "numbers", "[I", true)
  | _ => ("CurveMeetings$History", "size", "I", false)
def tyX1 : Nat → FieldType := fun k => match k with
  | 0 => .array .int
  | 1 => .array .int
  | _ => .int
abbrev wsX10 : List Cond := u_ws RX1 TX1 3
theorem nmX1 : ∀ a, a < 3 → ∀ b, b < 3 → a ≠ b → (TX1 a).2.1 ≠ (TX1 b).2.1 := by decide +kernel
theorem tyX1_ok : ∀ k, k < 3 → parseFieldDescriptor (TX1 k).2.2.1 = some (tyX1 k) := by decide +kernel
abbrev cX1_init : ByteArray := prog_3_method_1_code
def yX1_init : MethodName := ⟨RX1, "<init>", "()V"⟩
abbrev cX1_adds : ByteArray := prog_3_method_2_code
def yX1_adds : MethodName := ⟨RX1, "adds", "(I[I)V"⟩
abbrev cX1_loseOldest : ByteArray := prog_3_method_3_code
def yX1_loseOldest : MethodName := ⟨RX1, "loseOldest", "()V"⟩
def RX2 : String := "CurveMeetings$Images"
def TX2 : u_T := fun k => match k with
  | 0 => ("CurveMeetings$Images", "kept", "[Z", true)
  | _ => ("CurveMeetings$Images", "numbers", "[I", true)
def tyX2 : Nat → FieldType := fun k => match k with
  | 0 => .array .boolean
  | _ => .array .int
abbrev wsX20 : List Cond := u_ws RX2 TX2 2
theorem nmX2 : ∀ a, a < 2 → ∀ b, b < 2 → a ≠ b → (TX2 a).2.1 ≠ (TX2 b).2.1 := by decide +kernel
theorem tyX2_ok : ∀ k, k < 2 → parseFieldDescriptor (TX2 k).2.2.1 = some (tyX2 k) := by decide +kernel
abbrev cX2_init : ByteArray := prog_4_method_1_code
def yX2_init : MethodName := ⟨RX2, "<init>", "()V"⟩
abbrev cX2_place : ByteArray := prog_4_method_2_code
def yX2_place : MethodName := ⟨RX2, "place", "(II)I"⟩
abbrev cX2_drop : ByteArray := prog_4_method_3_code
def yX2_drop : MethodName := ⟨RX2, "drop", "()V"⟩
def RX3 : String := "CurveMeetings$Meetings"
def TX3 : u_T := fun k => match k with
  | 0 => ("CurveMeetings$Meetings", "nodeOfP", "[I", true)
  | 1 => ("CurveMeetings$Meetings", "nodeOfQ", "[I", true)
  | 2 => ("CurveMeetings$Meetings", "certain", "[Z", true)
  | 3 => ("CurveMeetings$Meetings", "way", "[I", true)
  | 4 => ("CurveMeetings$Meetings", "spotOf", "[I", true)
  | 5 => ("CurveMeetings$Meetings", "size", "I", false)
  | 6 => ("CurveMeetings$Meetings", "crossings", "I", false)
  | 7 => ("CurveMeetings$Meetings", "spots", "I", false)
  | 8 => ("CurveMeetings$Meetings", "tellings", "[I", true)
  | 9 => ("CurveMeetings$Meetings", "gathered", "[I", true)
  | 10 => ("CurveMeetings$Meetings", "p", "I", false)
  | 11 => ("CurveMeetings$Meetings", "q", "I", false)
  | _ => ("CurveMeetings$Meetings", "known", "[I", true)
def tyX3 : Nat → FieldType := fun k => match k with
  | 0 => .array .int
  | 1 => .array .int
  | 2 => .array .boolean
  | 3 => .array .int
  | 4 => .array .int
  | 5 => .int
  | 6 => .int
  | 7 => .int
  | 8 => .array .int
  | 9 => .array .int
  | 10 => .int
  | 11 => .int
  | _ => .array .int
abbrev wsX30 : List Cond := u_ws RX3 TX3 13
theorem nmX3 : ∀ a, a < 13 → ∀ b, b < 13 → a ≠ b → (TX3 a).2.1 ≠ (TX3 b).2.1 := by decide +kernel
theorem tyX3_ok : ∀ k, k < 13 → parseFieldDescriptor (TX3 k).2.2.1 = some (tyX3 k) := by decide +kernel
abbrev cX3_init : ByteArray := prog_5_method_1_code
def yX3_init : MethodName := ⟨RX3, "<init>", "()V"⟩
abbrev cX3_outdate : ByteArray := prog_5_method_2_code
def yX3_outdate : MethodName := ⟨RX3, "outdate", "()V"⟩
abbrev cX3_isOver : ByteArray := prog_5_method_3_code
def yX3_isOver : MethodName := ⟨RX3, "isOver", "()Z"⟩
abbrev cX3_tellSpot : ByteArray := prog_5_method_4_code
def yX3_tellSpot : MethodName := ⟨RX3, "tellSpot", "(II)I"⟩
abbrev cX3_countSpots : ByteArray := prog_5_method_5_code
def yX3_countSpots : MethodName := ⟨RX3, "countSpots", "([LCurveMeetings$Arc;II)I"⟩
abbrev cX3_find : ByteArray := prog_5_method_6_code
def yX3_find : MethodName := ⟨RX3, "find", "([LCurveMeetings$Arc;II)V"⟩
abbrev cX3_search : ByteArray := prog_5_method_7_code
def yX3_search : MethodName := ⟨RX3, "search", "(LCurveMeetings$Meetings;LCurveMeetings$Arc;ILCurveMeetings$Arc;II)V"⟩
abbrev cX3_adds : ByteArray := prog_5_method_8_code
def yX3_adds : MethodName := ⟨RX3, "adds", "(IIIZ)V"⟩
abbrev cX3_gatherSpots : ByteArray := prog_5_method_9_code
def yX3_gatherSpots : MethodName := ⟨RX3, "gatherSpots", "()V"⟩
abbrev cX3_gather : ByteArray := prog_5_method_10_code
def yX3_gather : MethodName := ⟨RX3, "gather", "(I)I"⟩
abbrev cX3_hangTogether : ByteArray := prog_5_method_11_code
def yX3_hangTogether : MethodName := ⟨RX3, "hangTogether", "(II)Z"⟩
abbrev cX3_tell : ByteArray := prog_5_method_12_code
def yX3_tell : MethodName := ⟨RX3, "tell", "(I)V"⟩
abbrev cX3_kind : ByteArray := prog_5_method_13_code
def yX3_kind : MethodName := ⟨RX3, "kind", "(I)I"⟩
abbrev cX3_tellStretch : ByteArray := prog_5_method_14_code
def yX3_tellStretch : MethodName := ⟨RX3, "tellStretch", "(I[II)V"⟩
abbrev cX3_width : ByteArray := prog_5_method_15_code
def yX3_width : MethodName := ⟨RX3, "width", "(I)I"⟩
def RX4 : String := "CurveMeetings$Pieces"
def TX4 : u_T := fun k => match k with
  | _ => ("", "", "", false)
def tyX4 : Nat → FieldType := fun k => match k with
  | _ => .int
abbrev wsX40 : List Cond := u_ws RX4 TX4 0
theorem nmX4 : ∀ a, a < 0 → ∀ b, b < 0 → a ≠ b → (TX4 a).2.1 ≠ (TX4 b).2.1 := by decide +kernel
theorem tyX4_ok : ∀ k, k < 0 → parseFieldDescriptor (TX4 k).2.2.1 = some (tyX4 k) := by decide +kernel
abbrev cX4_crossOfSteps : ByteArray := prog_6_method_2_code
def yX4_crossOfSteps : MethodName := ⟨RX4, "crossOfSteps", "(LCurveMeetings$Arc;IILCurveMeetings$Arc;II)J"⟩
abbrev cX4_side : ByteArray := prog_6_method_3_code
def yX4_side : MethodName := ⟨RX4, "side", "(LCurveMeetings$Arc;ILCurveMeetings$Arc;II)J"⟩
abbrev cX4_placeByBand : ByteArray := prog_6_method_4_code
def yX4_placeByBand : MethodName := ⟨RX4, "placeByBand", "(LCurveMeetings$Arc;IJ)I"⟩
abbrev cX4_whyApart : ByteArray := prog_6_method_5_code
def yX4_whyApart : MethodName := ⟨RX4, "whyApart", "(LCurveMeetings$Arc;ILCurveMeetings$Arc;I)I"⟩
abbrev cX4_boxesApart : ByteArray := prog_6_method_6_code
def yX4_boxesApart : MethodName := ⟨RX4, "boxesApart", "(LCurveMeetings$Arc;ILCurveMeetings$Arc;II)Z"⟩
abbrev cX4_clears : ByteArray := prog_6_method_7_code
def yX4_clears : MethodName := ⟨RX4, "clears", "(LCurveMeetings$Arc;ILCurveMeetings$Arc;I)Z"⟩
abbrev cX4_wayOfTurn : ByteArray := prog_6_method_8_code
def yX4_wayOfTurn : MethodName := ⟨RX4, "wayOfTurn", "(LCurveMeetings$Arc;ILCurveMeetings$Arc;I)I"⟩
abbrev cX4_sign : ByteArray := prog_6_method_9_code
def yX4_sign : MethodName := ⟨RX4, "sign", "(J)I"⟩
abbrev cX4_endsCross : ByteArray := prog_6_method_10_code
def yX4_endsCross : MethodName := ⟨RX4, "endsCross", "(LCurveMeetings$Arc;ILCurveMeetings$Arc;I)Z"⟩
abbrev cX4_endsBeside : ByteArray := prog_6_method_11_code
def yX4_endsBeside : MethodName := ⟨RX4, "endsBeside", "(LCurveMeetings$Arc;ILCurveMeetings$Arc;I)Z"⟩
def RX5 : String := "CurveMeetings$Reader"
def TX5 : u_T := fun k => match k with
  | 0 => ("CurveMeetings$Reader", "letters", "[I", true)
  | 1 => ("CurveMeetings$Reader", "length", "I", false)
  | 2 => ("CurveMeetings$Reader", "numbers", "[I", true)
  | 3 => ("CurveMeetings$Reader", "items", "I", false)
  | 4 => ("CurveMeetings$Reader", "inItem", "I", false)
  | _ => ("CurveMeetings$Reader", "minus", "Z", false)
def tyX5 : Nat → FieldType := fun k => match k with
  | 0 => .array .int
  | 1 => .int
  | 2 => .array .int
  | 3 => .int
  | 4 => .int
  | _ => .boolean
abbrev wsX50 : List Cond := u_ws RX5 TX5 6
theorem nmX5 : ∀ a, a < 6 → ∀ b, b < 6 → a ≠ b → (TX5 a).2.1 ≠ (TX5 b).2.1 := by decide +kernel
theorem tyX5_ok : ∀ k, k < 6 → parseFieldDescriptor (TX5 k).2.2.1 = some (tyX5 k) := by decide +kernel
abbrev cX5_init : ByteArray := prog_7_method_1_code
def yX5_init : MethodName := ⟨RX5, "<init>", "()V"⟩
abbrev cX5_adds : ByteArray := prog_7_method_2_code
def yX5_adds : MethodName := ⟨RX5, "adds", "(I)I"⟩
abbrev cX5_empties : ByteArray := prog_7_method_3_code
def yX5_empties : MethodName := ⟨RX5, "empties", "()I"⟩
abbrev cX5_findFault : ByteArray := prog_7_method_4_code
def yX5_findFault : MethodName := ⟨RX5, "findFault", "()I"⟩
abbrev cX5_takesToken : ByteArray := prog_7_method_5_code
def yX5_takesToken : MethodName := ⟨RX5, "takesToken", "(I)Z"⟩
abbrev cX5_opensItem : ByteArray := prog_7_method_6_code
def yX5_opensItem : MethodName := ⟨RX5, "opensItem", "()Z"⟩
abbrev cX5_takesMinus : ByteArray := prog_7_method_7_code
def yX5_takesMinus : MethodName := ⟨RX5, "takesMinus", "()Z"⟩
abbrev cX5_takesNumber : ByteArray := prog_7_method_8_code
def yX5_takesNumber : MethodName := ⟨RX5, "takesNumber", "(I)Z"⟩
abbrev cX5_endsItem : ByteArray := prog_7_method_9_code
def yX5_endsItem : MethodName := ⟨RX5, "endsItem", "()Z"⟩
abbrev cX5_wantsNumber : ByteArray := prog_7_method_10_code
def yX5_wantsNumber : MethodName := ⟨RX5, "wantsNumber", "()Z"⟩
abbrev cX5_isFigure : ByteArray := prog_7_method_11_code
def yX5_isFigure : MethodName := ⟨RX5, "isFigure", "(I)Z"⟩
def RX6 : String := "CurveMeetings$Sightings"
def TX6 : u_T := fun k => match k with
  | 0 => ("CurveMeetings$Sightings", "whom", "[I", true)
  | 1 => ("CurveMeetings$Sightings", "howMany", "[I", true)
  | _ => ("CurveMeetings$Sightings", "size", "I", false)
def tyX6 : Nat → FieldType := fun k => match k with
  | 0 => .array .int
  | 1 => .array .int
  | _ => .int
abbrev wsX60 : List Cond := u_ws RX6 TX6 3
theorem nmX6 : ∀ a, a < 3 → ∀ b, b < 3 → a ≠ b → (TX6 a).2.1 ≠ (TX6 b).2.1 := by decide +kernel
theorem tyX6_ok : ∀ k, k < 3 → parseFieldDescriptor (TX6 k).2.2.1 = some (tyX6 k) := by decide +kernel
abbrev cX6_init : ByteArray := prog_8_method_1_code
def yX6_init : MethodName := ⟨RX6, "<init>", "()V"⟩
abbrev cX6_adds : ByteArray := prog_8_method_2_code
def yX6_adds : MethodName := ⟨RX6, "adds", "(II)I"⟩
def RX7 : String := "CurveMeetings"
def TX7 : u_T := fun k => match k with
  | 0 => ("CurveMeetings", "text", "LCurveMeetings$Reader;", true)
  | 1 => ("CurveMeetings", "rows", "[LCurveMeetings$Arc;", true)
  | 2 => ("CurveMeetings", "size", "I", false)
  | 3 => ("CurveMeetings", "history", "LCurveMeetings$History;", true)
  | 4 => ("CurveMeetings", "images", "LCurveMeetings$Images;", true)
  | 5 => ("CurveMeetings", "seen", "LCurveMeetings$Sightings;", true)
  | _ => ("CurveMeetings", "meetings", "LCurveMeetings$Meetings;", true)
def tyX7 : Nat → FieldType := fun k => match k with
  | 0 => .object "CurveMeetings$Reader"
  | 1 => .array (.object "CurveMeetings$Arc")
  | 2 => .int
  | 3 => .object "CurveMeetings$History"
  | 4 => .object "CurveMeetings$Images"
  | 5 => .object "CurveMeetings$Sightings"
  | _ => .object "CurveMeetings$Meetings"
abbrev wsX70 : List Cond := u_ws RX7 TX7 7
theorem nmX7 : ∀ a, a < 7 → ∀ b, b < 7 → a ≠ b → (TX7 a).2.1 ≠ (TX7 b).2.1 := by decide +kernel
theorem tyX7_ok : ∀ k, k < 7 → parseFieldDescriptor (TX7 k).2.2.1 = some (tyX7 k) := by decide +kernel
abbrev cX7_init : ByteArray := prog_1_method_1_code
def yX7_init : MethodName := ⟨RX7, "<init>", "()V"⟩
abbrev cX7_type : ByteArray := prog_1_method_2_code
def yX7_type : MethodName := ⟨RX7, "type", "(I)I"⟩
abbrev cX7_clear : ByteArray := prog_1_method_3_code
def yX7_clear : MethodName := ⟨RX7, "clear", "()I"⟩
abbrev cX7_arcs : ByteArray := prog_1_method_4_code
def yX7_arcs : MethodName := ⟨RX7, "arcs", "()I"⟩
abbrev cX7_point : ByteArray := prog_1_method_5_code
def yX7_point : MethodName := ⟨RX7, "point", "(IIII)I"⟩
abbrev cX7_moves : ByteArray := prog_1_method_6_code
def yX7_moves : MethodName := ⟨RX7, "moves", "(IIII)I"⟩
abbrev cX7_shifts : ByteArray := prog_1_method_7_code
def yX7_shifts : MethodName := ⟨RX7, "shifts", "(III)I"⟩
abbrev cX7_reverses : ByteArray := prog_1_method_8_code
def yX7_reverses : MethodName := ⟨RX7, "reverses", "(I)I"⟩
abbrev cX7_undo : ByteArray := prog_1_method_9_code
def yX7_undo : MethodName := ⟨RX7, "undo", "()I"⟩
abbrev cX7_apart : ByteArray := prog_1_method_10_code
def yX7_apart : MethodName := ⟨RX7, "apart", "(IIII)I"⟩
abbrev cX7_turn : ByteArray := prog_1_method_11_code
def yX7_turn : MethodName := ⟨RX7, "turn", "(IIII)I"⟩
abbrev cX7_bends : ByteArray := prog_1_method_12_code
def yX7_bends : MethodName := ⟨RX7, "bends", "(II)I"⟩
abbrev cX7_goes : ByteArray := prog_1_method_13_code
def yX7_goes : MethodName := ⟨RX7, "goes", "(III)I"⟩
abbrev cX7_area : ByteArray := prog_1_method_14_code
def yX7_area : MethodName := ⟨RX7, "area", "(II)I"⟩
abbrev cX7_meets : ByteArray := prog_1_method_15_code
def yX7_meets : MethodName := ⟨RX7, "meets", "(III)I"⟩
abbrev cX7_meeting : ByteArray := prog_1_method_16_code
def yX7_meeting : MethodName := ⟨RX7, "meeting", "(IIII)I"⟩
abbrev cX7_spot : ByteArray := prog_1_method_17_code
def yX7_spot : MethodName := ⟨RX7, "spot", "(IIII)I"⟩
abbrev cX7_busiest : ByteArray := prog_1_method_18_code
def yX7_busiest : MethodName := ⟨RX7, "busiest", "(I)I"⟩
abbrev cX7_sees : ByteArray := prog_1_method_19_code
def yX7_sees : MethodName := ⟨RX7, "sees", "(II)I"⟩
abbrev cX7_forget : ByteArray := prog_1_method_20_code
def yX7_forget : MethodName := ⟨RX7, "forget", "()I"⟩
abbrev cX7_unseen : ByteArray := prog_1_method_21_code
def yX7_unseen : MethodName := ⟨RX7, "unseen", "()I"⟩
abbrev cX7_keep : ByteArray := prog_1_method_22_code
def yX7_keep : MethodName := ⟨RX7, "keep", "(I)I"⟩
abbrev cX7_back : ByteArray := prog_1_method_23_code
def yX7_back : MethodName := ⟨RX7, "back", "(I)I"⟩
abbrev cX7_count : ByteArray := prog_1_method_24_code
def yX7_count : MethodName := ⟨RX7, "count", "(I)I"⟩
abbrev cX7_isArc : ByteArray := prog_1_method_25_code
def yX7_isArc : MethodName := ⟨RX7, "isArc", "(I)Z"⟩
abbrev cX7_areTwoArcs : ByteArray := prog_1_method_26_code
def yX7_areTwoArcs : MethodName := ⟨RX7, "areTwoArcs", "(II)Z"⟩
abbrev cX7_isNode : ByteArray := prog_1_method_27_code
def yX7_isNode : MethodName := ⟨RX7, "isNode", "(I)Z"⟩
abbrev cX7_isPoint : ByteArray := prog_1_method_28_code
def yX7_isPoint : MethodName := ⟨RX7, "isPoint", "(I)Z"⟩
abbrev cX7_isAxis : ByteArray := prog_1_method_29_code
def yX7_isAxis : MethodName := ⟨RX7, "isAxis", "(I)Z"⟩
abbrev cX7_isCoordinate : ByteArray := prog_1_method_30_code
def yX7_isCoordinate : MethodName := ⟨RX7, "isCoordinate", "(J)Z"⟩
abbrev cX7_isImage : ByteArray := prog_1_method_31_code
def yX7_isImage : MethodName := ⟨RX7, "isImage", "(I)Z"⟩
abbrev cX7_startChange : ByteArray := prog_1_method_32_code
def yX7_startChange : MethodName := ⟨RX7, "startChange", "(I)V"⟩
abbrev cX7_whichSigns : ByteArray := prog_1_method_33_code
def yX7_whichSigns : MethodName := ⟨RX7, "whichSigns", "(JJ)I"⟩
abbrev cX7_commonDivisor : ByteArray := prog_1_method_34_code
def yX7_commonDivisor : MethodName := ⟨RX7, "commonDivisor", "(I)I"⟩
def RX8 : String := "CurveMeetingsModel"
def TX8 : u_T := fun k => match k with
  | 0 => ("CurveMeetingsModel", "thrown", "I", false)
  | 1 => ("CurveMeetingsModel", "arcs", "I", false)
  | 2 => ("CurveMeetingsModel", "s", "[I", true)
  | 3 => ("CurveMeetingsModel", "past", "[I", true)
  | 4 => ("CurveMeetingsModel", "undos", "I", false)
  | 5 => ("CurveMeetingsModel", "kept", "[I", true)
  | 6 => ("CurveMeetingsModel", "isKept", "[Z", true)
  | 7 => ("CurveMeetingsModel", "seen", "I", false)
  | 8 => ("CurveMeetingsModel", "seenArc", "[I", true)
  | 9 => ("CurveMeetingsModel", "seenIs", "[I", true)
  | 10 => ("CurveMeetingsModel", "node", "[I", true)
  | 11 => ("CurveMeetingsModel", "isLaid", "Z", false)
  | 12 => ("CurveMeetingsModel", "letters", "I", false)
  | 13 => ("CurveMeetingsModel", "text", "[I", true)
  | 14 => ("CurveMeetingsModel", "next", "I", false)
  | 15 => ("CurveMeetingsModel", "begin", "I", false)
  | 16 => ("CurveMeetingsModel", "token", "I", false)
  | 17 => ("CurveMeetingsModel", "read", "[I", true)
  | 18 => ("CurveMeetingsModel", "readArcs", "I", false)
  | 19 => ("CurveMeetingsModel", "meetings", "I", false)
  | 20 => ("CurveMeetingsModel", "meetP", "[I", true)
  | 21 => ("CurveMeetingsModel", "meetQ", "[I", true)
  | 22 => ("CurveMeetingsModel", "isCrossing", "[Z", true)
  | 23 => ("CurveMeetingsModel", "spotOf", "[I", true)
  | 24 => ("CurveMeetingsModel", "spots", "I", false)
  | 25 => ("CurveMeetingsModel", "waitP", "[I", true)
  | 26 => ("CurveMeetingsModel", "waitQ", "[I", true)
  | _ => ("CurveMeetingsModel", "waiting", "I", false)
def tyX8 : Nat → FieldType := fun k => match k with
  | 0 => .int
  | 1 => .int
  | 2 => .array .int
  | 3 => .array .int
  | 4 => .int
  | 5 => .array .int
  | 6 => .array .boolean
  | 7 => .int
  | 8 => .array .int
  | 9 => .array .int
  | 10 => .array .int
  | 11 => .boolean
  | 12 => .int
  | 13 => .array .int
  | 14 => .int
  | 15 => .int
  | 16 => .int
  | 17 => .array .int
  | 18 => .int
  | 19 => .int
  | 20 => .array .int
  | 21 => .array .int
  | 22 => .array .boolean
  | 23 => .array .int
  | 24 => .int
  | 25 => .array .int
  | 26 => .array .int
  | _ => .int
abbrev wsX80 : List Cond := u_ws RX8 TX8 28
theorem nmX8 : ∀ a, a < 28 → ∀ b, b < 28 → a ≠ b → (TX8 a).2.1 ≠ (TX8 b).2.1 := by decide +kernel
theorem tyX8_ok : ∀ k, k < 28 → parseFieldDescriptor (TX8 k).2.2.1 = some (tyX8 k) := by decide +kernel
abbrev cX8_init : ByteArray := prog_10_method_1_code
def yX8_init : MethodName := ⟨RX8, "<init>", "()V"⟩
abbrev cX8_in : ByteArray := prog_10_method_3_code
def yX8_in : MethodName := ⟨RX8, "in", "(III)Z"⟩
abbrev cX8_isArc : ByteArray := prog_10_method_4_code
def yX8_isArc : MethodName := ⟨RX8, "isArc", "(I)Z"⟩
abbrev cX8_isNode : ByteArray := prog_10_method_5_code
def yX8_isNode : MethodName := ⟨RX8, "isNode", "(I)Z"⟩
abbrev cX8_type : ByteArray := prog_10_method_6_code
def yX8_type : MethodName := ⟨RX8, "type", "(I)I"⟩
abbrev cX8_clear : ByteArray := prog_10_method_7_code
def yX8_clear : MethodName := ⟨RX8, "clear", "()I"⟩
abbrev cX8_isFigure : ByteArray := prog_10_method_8_code
def yX8_isFigure : MethodName := ⟨RX8, "isFigure", "(I)Z"⟩
abbrev cX8_takes : ByteArray := prog_10_method_9_code
def yX8_takes : MethodName := ⟨RX8, "takes", "()V"⟩
abbrev cX8_readsArc : ByteArray := prog_10_method_10_code
def yX8_readsArc : MethodName := ⟨RX8, "readsArc", "()Z"⟩
abbrev cX8_arcs : ByteArray := prog_10_method_11_code
def yX8_arcs : MethodName := ⟨RX8, "arcs", "()I"⟩
abbrev cX8_placeOf : ByteArray := prog_10_method_12_code
def yX8_placeOf : MethodName := ⟨RX8, "placeOf", "(IIIII)I"⟩
abbrev cX8_depth : ByteArray := prog_10_method_13_code
def yX8_depth : MethodName := ⟨RX8, "depth", "(I)I"⟩
abbrev cX8_from : ByteArray := prog_10_method_14_code
def yX8_from : MethodName := ⟨RX8, "from", "(I)I"⟩
abbrev cX8_to : ByteArray := prog_10_method_15_code
def yX8_to : MethodName := ⟨RX8, "to", "(I)I"⟩
abbrev cX8_lays : ByteArray := prog_10_method_16_code
def yX8_lays : MethodName := ⟨RX8, "lays", "()V"⟩
abbrev cX8_at : ByteArray := prog_10_method_17_code
def yX8_at : MethodName := ⟨RX8, "at", "(IIII)I"⟩
abbrev cX8_stepOf : ByteArray := prog_10_method_18_code
def yX8_stepOf : MethodName := ⟨RX8, "stepOf", "(IIII)I"⟩
abbrev cX8_cross : ByteArray := prog_10_method_19_code
def yX8_cross : MethodName := ⟨RX8, "cross", "(JJJJ)J"⟩
abbrev cX8_side : ByteArray := prog_10_method_20_code
def yX8_side : MethodName := ⟨RX8, "side", "(IIIII)J"⟩
abbrev cX8_bandLow : ByteArray := prog_10_method_21_code
def yX8_bandLow : MethodName := ⟨RX8, "bandLow", "(II)J"⟩
abbrev cX8_bandHigh : ByteArray := prog_10_method_22_code
def yX8_bandHigh : MethodName := ⟨RX8, "bandHigh", "(II)J"⟩
abbrev cX8_beyond : ByteArray := prog_10_method_23_code
def yX8_beyond : MethodName := ⟨RX8, "beyond", "(IIIIZI)I"⟩
abbrev cX8_clears : ByteArray := prog_10_method_24_code
def yX8_clears : MethodName := ⟨RX8, "clears", "(IIII)Z"⟩
abbrev cX8_extreme : ByteArray := prog_10_method_25_code
def yX8_extreme : MethodName := ⟨RX8, "extreme", "(IIIZ)I"⟩
abbrev cX8_areBoxesApart : ByteArray := prog_10_method_26_code
def yX8_areBoxesApart : MethodName := ⟨RX8, "areBoxesApart", "(IIII)Z"⟩
abbrev cX8_apartOf : ByteArray := prog_10_method_27_code
def yX8_apartOf : MethodName := ⟨RX8, "apartOf", "(IIII)I"⟩
abbrev cX8_turnOf : ByteArray := prog_10_method_28_code
def yX8_turnOf : MethodName := ⟨RX8, "turnOf", "(IIII)I"⟩
abbrev cX8_isAcross : ByteArray := prog_10_method_29_code
def yX8_isAcross : MethodName := ⟨RX8, "isAcross", "(IIII)Z"⟩
abbrev cX8_areCrossed : ByteArray := prog_10_method_30_code
def yX8_areCrossed : MethodName := ⟨RX8, "areCrossed", "(IIII)Z"⟩
abbrev cX8_point : ByteArray := prog_10_method_31_code
def yX8_point : MethodName := ⟨RX8, "point", "(IIII)I"⟩
abbrev cX8_arePair : ByteArray := prog_10_method_32_code
def yX8_arePair : MethodName := ⟨RX8, "arePair", "(II)Z"⟩
abbrev cX8_apart : ByteArray := prog_10_method_33_code
def yX8_apart : MethodName := ⟨RX8, "apart", "(IIII)I"⟩
abbrev cX8_turn : ByteArray := prog_10_method_34_code
def yX8_turn : MethodName := ⟨RX8, "turn", "(IIII)I"⟩
abbrev cX8_signOf : ByteArray := prog_10_method_35_code
def yX8_signOf : MethodName := ⟨RX8, "signOf", "(ZZ)I"⟩
abbrev cX8_bend : ByteArray := prog_10_method_36_code
def yX8_bend : MethodName := ⟨RX8, "bend", "(III)J"⟩
abbrev cX8_bends : ByteArray := prog_10_method_37_code
def yX8_bends : MethodName := ⟨RX8, "bends", "(II)I"⟩
abbrev cX8_goes : ByteArray := prog_10_method_38_code
def yX8_goes : MethodName := ⟨RX8, "goes", "(III)I"⟩
abbrev cX8_crossOf : ByteArray := prog_10_method_39_code
def yX8_crossOf : MethodName := ⟨RX8, "crossOf", "(III)I"⟩
abbrev cX8_areaOf : ByteArray := prog_10_method_40_code
def yX8_areaOf : MethodName := ⟨RX8, "areaOf", "(I)I"⟩
abbrev cX8_area : ByteArray := prog_10_method_41_code
def yX8_area : MethodName := ⟨RX8, "area", "(II)I"⟩
abbrev cX8_waits : ByteArray := prog_10_method_42_code
def yX8_waits : MethodName := ⟨RX8, "waits", "(II)V"⟩
abbrev cX8_isTooMany : ByteArray := prog_10_method_43_code
def yX8_isTooMany : MethodName := ⟨RX8, "isTooMany", "(IIII)Z"⟩
abbrev cX8_areNear : ByteArray := prog_10_method_44_code
def yX8_areNear : MethodName := ⟨RX8, "areNear", "(II)Z"⟩
abbrev cX8_laysSpots : ByteArray := prog_10_method_45_code
def yX8_laysSpots : MethodName := ⟨RX8, "laysSpots", "()V"⟩
abbrev cX8_meet : ByteArray := prog_10_method_46_code
def yX8_meet : MethodName := ⟨RX8, "meet", "(II)Z"⟩
abbrev cX8_meets : ByteArray := prog_10_method_47_code
def yX8_meets : MethodName := ⟨RX8, "meets", "(III)I"⟩
abbrev cX8_meeting : ByteArray := prog_10_method_48_code
def yX8_meeting : MethodName := ⟨RX8, "meeting", "(IIII)I"⟩
abbrev cX8_kindOf : ByteArray := prog_10_method_49_code
def yX8_kindOf : MethodName := ⟨RX8, "kindOf", "(III)I"⟩
abbrev cX8_ofSpot : ByteArray := prog_10_method_50_code
def yX8_ofSpot : MethodName := ⟨RX8, "ofSpot", "(II)I"⟩
abbrev cX8_spot : ByteArray := prog_10_method_51_code
def yX8_spot : MethodName := ⟨RX8, "spot", "(IIII)I"⟩
abbrev cX8_spotsOf : ByteArray := prog_10_method_52_code
def yX8_spotsOf : MethodName := ⟨RX8, "spotsOf", "(II)I"⟩
abbrev cX8_busiest : ByteArray := prog_10_method_53_code
def yX8_busiest : MethodName := ⟨RX8, "busiest", "(I)I"⟩
abbrev cX8_notes : ByteArray := prog_10_method_54_code
def yX8_notes : MethodName := ⟨RX8, "notes", "()V"⟩
abbrev cX8_moves : ByteArray := prog_10_method_55_code
def yX8_moves : MethodName := ⟨RX8, "moves", "(IIII)I"⟩
abbrev cX8_shifts : ByteArray := prog_10_method_56_code
def yX8_shifts : MethodName := ⟨RX8, "shifts", "(III)I"⟩
abbrev cX8_reverses : ByteArray := prog_10_method_57_code
def yX8_reverses : MethodName := ⟨RX8, "reverses", "(I)I"⟩
abbrev cX8_undo : ByteArray := prog_10_method_58_code
def yX8_undo : MethodName := ⟨RX8, "undo", "()I"⟩
abbrev cX8_sees : ByteArray := prog_10_method_59_code
def yX8_sees : MethodName := ⟨RX8, "sees", "(II)I"⟩
abbrev cX8_forget : ByteArray := prog_10_method_60_code
def yX8_forget : MethodName := ⟨RX8, "forget", "()I"⟩
abbrev cX8_unseen : ByteArray := prog_10_method_61_code
def yX8_unseen : MethodName := ⟨RX8, "unseen", "()I"⟩
abbrev cX8_keep : ByteArray := prog_10_method_62_code
def yX8_keep : MethodName := ⟨RX8, "keep", "(I)I"⟩
abbrev cX8_back : ByteArray := prog_10_method_63_code
def yX8_back : MethodName := ⟨RX8, "back", "(I)I"⟩
abbrev cX8_count : ByteArray := prog_10_method_64_code
def yX8_count : MethodName := ⟨RX8, "count", "(I)I"⟩
def RJ9 : String := "java/lang/Math"
def TJ9 : u_T := fun k => match k with
  | _ => ("", "", "", false)
def tyJ9 : Nat → FieldType := fun k => match k with
  | _ => .int
theorem nmJ9 : ∀ a, a < 0 → ∀ b, b < 0 → a ≠ b → (TJ9 a).2.1 ≠ (TJ9 b).2.1 := by decide +kernel
theorem tyJ9_ok : ∀ k, k < 0 → parseFieldDescriptor (TJ9 k).2.2.1 = some (tyJ9 k) := by decide +kernel
abbrev cJ9_abs_0f7a4 : ByteArray := prog_11_method_59_code
def yJ9_abs_0f7a4 : MethodName := ⟨RJ9, "abs", "(I)I"⟩
abbrev cJ9_max_7cf53 : ByteArray := prog_11_method_65_code
def yJ9_max_7cf53 : MethodName := ⟨RJ9, "max", "(II)I"⟩
abbrev cJ9_max_f86c9 : ByteArray := prog_11_method_66_code
def yJ9_max_f86c9 : MethodName := ⟨RJ9, "max", "(JJ)J"⟩
abbrev cJ9_min_7cf53 : ByteArray := prog_11_method_69_code
def yJ9_min_7cf53 : MethodName := ⟨RJ9, "min", "(II)I"⟩
abbrev cJ9_min_f86c9 : ByteArray := prog_11_method_70_code
def yJ9_min_f86c9 : MethodName := ⟨RJ9, "min", "(JJ)J"⟩
def RJ10 : String := "java/lang/System"
def TJ10 : u_T := fun k => match k with
  | _ => ("", "", "", false)
def tyJ10 : Nat → FieldType := fun k => match k with
  | _ => .int
theorem nmJ10 : ∀ a, a < 0 → ∀ b, b < 0 → a ≠ b → (TJ10 a).2.1 ≠ (TJ10 b).2.1 := by decide +kernel
theorem tyJ10_ok : ∀ k, k < 0 → parseFieldDescriptor (TJ10 k).2.2.1 = some (tyJ10 k) := by decide +kernel
def RL : String := "CurveMeetingsLaw"
abbrev cL_law : ByteArray := code
def yL_law : MethodName := ⟨RL, "law", "([I)Z"⟩
abbrev vwCl : List vw_C := [(RX0, TX0, 5), (RX1, TX1, 3), (RX2, TX2, 2), (RX3, TX3, 13), (RX5, TX5, 6), (RX6, TX6, 3), (RX7, TX7, 7), (RX8, TX8, 28)]
