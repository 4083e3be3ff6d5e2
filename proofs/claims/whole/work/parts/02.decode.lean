theorem dX0_init_0 : decode cX0_init 0 = .ok (.aload_n 0, 1) := by decide +kernel
theorem dX0_init_1 : decode cX0_init 1 = .ok (.invokespecial 3, 3) := by decide +kernel
theorem dX0_init_4 : decode cX0_init 4 = .ok (.aload_n 0, 1) := by decide +kernel
theorem dX0_init_5 : decode cX0_init 5 = .ok (.bipush 8, 2) := by decide +kernel
theorem dX0_init_7 : decode cX0_init 7 = .ok (.newarray .int, 2) := by decide +kernel
theorem dX0_init_9 : decode cX0_init 9 = .ok (.putfield 9, 3) := by decide +kernel
theorem dX0_init_12 : decode cX0_init 12 = .ok (.aload_n 0, 1) := by decide +kernel
theorem dX0_init_13 : decode cX0_init 13 = .ok (.sipush 512, 3) := by decide +kernel
theorem dX0_init_16 : decode cX0_init 16 = .ok (.newarray .int, 2) := by decide +kernel
theorem dX0_init_18 : decode cX0_init 18 = .ok (.putfield 15, 3) := by decide +kernel
theorem dX0_init_21 : decode cX0_init 21 = .ok (.aload_n 0, 1) := by decide +kernel
theorem dX0_init_22 : decode cX0_init 22 = .ok (.sipush 256, 3) := by decide +kernel
theorem dX0_init_25 : decode cX0_init 25 = .ok (.newarray .int, 2) := by decide +kernel
theorem dX0_init_27 : decode cX0_init 27 = .ok (.putfield 18, 3) := by decide +kernel
theorem dX0_init_30 : decode cX0_init 30 = .ok (.aload_n 0, 1) := by decide +kernel
theorem dX0_init_31 : decode cX0_init 31 = .ok (.bipush 64, 2) := by decide +kernel
theorem dX0_init_33 : decode cX0_init 33 = .ok (.newarray .long, 2) := by decide +kernel
theorem dX0_init_35 : decode cX0_init 35 = .ok (.putfield 21, 3) := by decide +kernel
theorem dX0_init_38 : decode cX0_init 38 = .ok (.aload_n 0, 1) := by decide +kernel
theorem dX0_init_39 : decode cX0_init 39 = .ok (.bipush 64, 2) := by decide +kernel
theorem dX0_init_41 : decode cX0_init 41 = .ok (.newarray .long, 2) := by decide +kernel
theorem dX0_init_43 : decode cX0_init 43 = .ok (.putfield 25, 3) := by decide +kernel
theorem dX0_init_46 : decode cX0_init 46 = .ok (.return_, 1) := by decide +kernel
theorem dX0_takes_0 : decode cX0_takes 0 = .ok (.aload_n 1, 1) := by decide +kernel
theorem dX0_takes_1 : decode cX0_takes 1 = .ok (.iload_n 2, 1) := by decide +kernel
theorem dX0_takes_2 : decode cX0_takes 2 = .ok (.aload_n 0, 1) := by decide +kernel
theorem dX0_takes_3 : decode cX0_takes 3 = .ok (.getfield 9, 3) := by decide +kernel
theorem dX0_takes_6 : decode cX0_takes 6 = .ok (.iconst 0, 1) := by decide +kernel
theorem dX0_takes_7 : decode cX0_takes 7 = .ok (.bipush 8, 2) := by decide +kernel
theorem dX0_takes_9 : decode cX0_takes 9 = .ok (.invokestatic 28, 3) := by decide +kernel
theorem dX0_takes_12 : decode cX0_takes 12 = .ok (.aload_n 0, 1) := by decide +kernel
theorem dX0_takes_13 : decode cX0_takes 13 = .ok (.invokevirtual 34, 3) := by decide +kernel
theorem dX0_takes_16 : decode cX0_takes 16 = .ok (.return_, 1) := by decide +kernel
theorem dX0_canShift_0 : decode cX0_canShift 0 = .ok (.iconst 0, 1) := by decide +kernel
theorem dX0_canShift_1 : decode cX0_canShift 1 = .ok (.istore_n 3, 1) := by decide +kernel
theorem dX0_canShift_2 : decode cX0_canShift 2 = .ok (.iload_n 3, 1) := by decide +kernel
theorem dX0_canShift_3 : decode cX0_canShift 3 = .ok (.iconst 4, 1) := by decide +kernel
theorem dX0_canShift_4 : decode cX0_canShift 4 = .ok (.if_icmp .ge 49, 3) := by decide +kernel
theorem dX0_canShift_7 : decode cX0_canShift 7 = .ok (.aload_n 0, 1) := by decide +kernel
theorem dX0_canShift_8 : decode cX0_canShift 8 = .ok (.getfield 9, 3) := by decide +kernel
theorem dX0_canShift_11 : decode cX0_canShift 11 = .ok (.iconst 2, 1) := by decide +kernel
theorem dX0_canShift_12 : decode cX0_canShift 12 = .ok (.iload_n 3, 1) := by decide +kernel
theorem dX0_canShift_13 : decode cX0_canShift 13 = .ok (.imul, 1) := by decide +kernel
theorem dX0_canShift_14 : decode cX0_canShift 14 = .ok (.iaload, 1) := by decide +kernel
theorem dX0_canShift_15 : decode cX0_canShift 15 = .ok (.i2l, 1) := by decide +kernel
theorem dX0_canShift_16 : decode cX0_canShift 16 = .ok (.iload_n 1, 1) := by decide +kernel
theorem dX0_canShift_17 : decode cX0_canShift 17 = .ok (.i2l, 1) := by decide +kernel
theorem dX0_canShift_18 : decode cX0_canShift 18 = .ok (.ladd, 1) := by decide +kernel
theorem dX0_canShift_19 : decode cX0_canShift 19 = .ok (.invokestatic 37, 3) := by decide +kernel
theorem dX0_canShift_22 : decode cX0_canShift 22 = .ok (.ifCond .eq 23, 3) := by decide +kernel
theorem dX0_canShift_25 : decode cX0_canShift 25 = .ok (.aload_n 0, 1) := by decide +kernel
theorem dX0_canShift_26 : decode cX0_canShift 26 = .ok (.getfield 9, 3) := by decide +kernel
theorem dX0_canShift_29 : decode cX0_canShift 29 = .ok (.iconst 2, 1) := by decide +kernel
theorem dX0_canShift_30 : decode cX0_canShift 30 = .ok (.iload_n 3, 1) := by decide +kernel
theorem dX0_canShift_31 : decode cX0_canShift 31 = .ok (.imul, 1) := by decide +kernel
theorem dX0_canShift_32 : decode cX0_canShift 32 = .ok (.iconst 1, 1) := by decide +kernel
theorem dX0_canShift_33 : decode cX0_canShift 33 = .ok (.iadd, 1) := by decide +kernel
theorem dX0_canShift_34 : decode cX0_canShift 34 = .ok (.iaload, 1) := by decide +kernel
theorem dX0_canShift_35 : decode cX0_canShift 35 = .ok (.i2l, 1) := by decide +kernel
theorem dX0_canShift_36 : decode cX0_canShift 36 = .ok (.iload_n 2, 1) := by decide +kernel
theorem dX0_canShift_37 : decode cX0_canShift 37 = .ok (.i2l, 1) := by decide +kernel
theorem dX0_canShift_38 : decode cX0_canShift 38 = .ok (.ladd, 1) := by decide +kernel
theorem dX0_canShift_39 : decode cX0_canShift 39 = .ok (.invokestatic 37, 3) := by decide +kernel
theorem dX0_canShift_42 : decode cX0_canShift 42 = .ok (.ifCond .ne 5, 3) := by decide +kernel
theorem dX0_canShift_45 : decode cX0_canShift 45 = .ok (.iconst 0, 1) := by decide +kernel
theorem dX0_canShift_46 : decode cX0_canShift 46 = .ok (.ireturn, 1) := by decide +kernel
theorem dX0_canShift_47 : decode cX0_canShift 47 = .ok (.iinc 3 1, 3) := by decide +kernel
theorem dX0_canShift_50 : decode cX0_canShift 50 = .ok (.goto (-48), 3) := by decide +kernel
theorem dX0_canShift_53 : decode cX0_canShift 53 = .ok (.iconst 1, 1) := by decide +kernel
theorem dX0_canShift_54 : decode cX0_canShift 54 = .ok (.ireturn, 1) := by decide +kernel
theorem dX0_shiftAll_0 : decode cX0_shiftAll 0 = .ok (.iconst 0, 1) := by decide +kernel
theorem dX0_shiftAll_1 : decode cX0_shiftAll 1 = .ok (.istore_n 3, 1) := by decide +kernel
theorem dX0_shiftAll_2 : decode cX0_shiftAll 2 = .ok (.iload_n 3, 1) := by decide +kernel
theorem dX0_shiftAll_3 : decode cX0_shiftAll 3 = .ok (.iconst 4, 1) := by decide +kernel
theorem dX0_shiftAll_4 : decode cX0_shiftAll 4 = .ok (.if_icmp .ge 35, 3) := by decide +kernel
theorem dX0_shiftAll_7 : decode cX0_shiftAll 7 = .ok (.aload_n 0, 1) := by decide +kernel
theorem dX0_shiftAll_8 : decode cX0_shiftAll 8 = .ok (.getfield 9, 3) := by decide +kernel
theorem dX0_shiftAll_11 : decode cX0_shiftAll 11 = .ok (.iconst 2, 1) := by decide +kernel
theorem dX0_shiftAll_12 : decode cX0_shiftAll 12 = .ok (.iload_n 3, 1) := by decide +kernel
theorem dX0_shiftAll_13 : decode cX0_shiftAll 13 = .ok (.imul, 1) := by decide +kernel
theorem dX0_shiftAll_14 : decode cX0_shiftAll 14 = .ok (.dup2, 1) := by decide +kernel
theorem dX0_shiftAll_15 : decode cX0_shiftAll 15 = .ok (.iaload, 1) := by decide +kernel
theorem dX0_shiftAll_16 : decode cX0_shiftAll 16 = .ok (.iload_n 1, 1) := by decide +kernel
theorem dX0_shiftAll_17 : decode cX0_shiftAll 17 = .ok (.iadd, 1) := by decide +kernel
theorem dX0_shiftAll_18 : decode cX0_shiftAll 18 = .ok (.iastore, 1) := by decide +kernel
theorem dX0_shiftAll_19 : decode cX0_shiftAll 19 = .ok (.aload_n 0, 1) := by decide +kernel
theorem dX0_shiftAll_20 : decode cX0_shiftAll 20 = .ok (.getfield 9, 3) := by decide +kernel
theorem dX0_shiftAll_23 : decode cX0_shiftAll 23 = .ok (.iconst 2, 1) := by decide +kernel
theorem dX0_shiftAll_24 : decode cX0_shiftAll 24 = .ok (.iload_n 3, 1) := by decide +kernel
theorem dX0_shiftAll_25 : decode cX0_shiftAll 25 = .ok (.imul, 1) := by decide +kernel
theorem dX0_shiftAll_26 : decode cX0_shiftAll 26 = .ok (.iconst 1, 1) := by decide +kernel
theorem dX0_shiftAll_27 : decode cX0_shiftAll 27 = .ok (.iadd, 1) := by decide +kernel
theorem dX0_shiftAll_28 : decode cX0_shiftAll 28 = .ok (.dup2, 1) := by decide +kernel
theorem dX0_shiftAll_29 : decode cX0_shiftAll 29 = .ok (.iaload, 1) := by decide +kernel
theorem dX0_shiftAll_30 : decode cX0_shiftAll 30 = .ok (.iload_n 2, 1) := by decide +kernel
theorem dX0_shiftAll_31 : decode cX0_shiftAll 31 = .ok (.iadd, 1) := by decide +kernel
theorem dX0_shiftAll_32 : decode cX0_shiftAll 32 = .ok (.iastore, 1) := by decide +kernel
theorem dX0_shiftAll_33 : decode cX0_shiftAll 33 = .ok (.iinc 3 1, 3) := by decide +kernel
theorem dX0_shiftAll_36 : decode cX0_shiftAll 36 = .ok (.goto (-34), 3) := by decide +kernel
theorem dX0_shiftAll_39 : decode cX0_shiftAll 39 = .ok (.aload_n 0, 1) := by decide +kernel
theorem dX0_shiftAll_40 : decode cX0_shiftAll 40 = .ok (.invokevirtual 34, 3) := by decide +kernel
theorem dX0_shiftAll_43 : decode cX0_shiftAll 43 = .ok (.return_, 1) := by decide +kernel
theorem dX0_turnRound_0 : decode cX0_turnRound 0 = .ok (.iconst 0, 1) := by decide +kernel
theorem dX0_turnRound_1 : decode cX0_turnRound 1 = .ok (.istore_n 1, 1) := by decide +kernel
theorem dX0_turnRound_2 : decode cX0_turnRound 2 = .ok (.iload_n 1, 1) := by decide +kernel
theorem dX0_turnRound_3 : decode cX0_turnRound 3 = .ok (.iconst 2, 1) := by decide +kernel
theorem dX0_turnRound_4 : decode cX0_turnRound 4 = .ok (.if_icmp .ge 37, 3) := by decide +kernel
theorem dX0_turnRound_7 : decode cX0_turnRound 7 = .ok (.aload_n 0, 1) := by decide +kernel
theorem dX0_turnRound_8 : decode cX0_turnRound 8 = .ok (.iconst 2, 1) := by decide +kernel
theorem dX0_turnRound_9 : decode cX0_turnRound 9 = .ok (.iload_n 1, 1) := by decide +kernel
theorem dX0_turnRound_10 : decode cX0_turnRound 10 = .ok (.imul, 1) := by decide +kernel
theorem dX0_turnRound_11 : decode cX0_turnRound 11 = .ok (.bipush 6, 2) := by decide +kernel
theorem dX0_turnRound_13 : decode cX0_turnRound 13 = .ok (.iconst 2, 1) := by decide +kernel
theorem dX0_turnRound_14 : decode cX0_turnRound 14 = .ok (.iload_n 1, 1) := by decide +kernel
theorem dX0_turnRound_15 : decode cX0_turnRound 15 = .ok (.imul, 1) := by decide +kernel
theorem dX0_turnRound_16 : decode cX0_turnRound 16 = .ok (.isub, 1) := by decide +kernel
theorem dX0_turnRound_17 : decode cX0_turnRound 17 = .ok (.invokevirtual 41, 3) := by decide +kernel
theorem dX0_turnRound_20 : decode cX0_turnRound 20 = .ok (.aload_n 0, 1) := by decide +kernel
theorem dX0_turnRound_21 : decode cX0_turnRound 21 = .ok (.iconst 2, 1) := by decide +kernel
theorem dX0_turnRound_22 : decode cX0_turnRound 22 = .ok (.iload_n 1, 1) := by decide +kernel
theorem dX0_turnRound_23 : decode cX0_turnRound 23 = .ok (.imul, 1) := by decide +kernel
theorem dX0_turnRound_24 : decode cX0_turnRound 24 = .ok (.iconst 1, 1) := by decide +kernel
theorem dX0_turnRound_25 : decode cX0_turnRound 25 = .ok (.iadd, 1) := by decide +kernel
theorem dX0_turnRound_26 : decode cX0_turnRound 26 = .ok (.bipush 7, 2) := by decide +kernel
theorem dX0_turnRound_28 : decode cX0_turnRound 28 = .ok (.iconst 2, 1) := by decide +kernel
theorem dX0_turnRound_29 : decode cX0_turnRound 29 = .ok (.iload_n 1, 1) := by decide +kernel
theorem dX0_turnRound_30 : decode cX0_turnRound 30 = .ok (.imul, 1) := by decide +kernel
theorem dX0_turnRound_31 : decode cX0_turnRound 31 = .ok (.isub, 1) := by decide +kernel
theorem dX0_turnRound_32 : decode cX0_turnRound 32 = .ok (.invokevirtual 41, 3) := by decide +kernel
theorem dX0_turnRound_35 : decode cX0_turnRound 35 = .ok (.iinc 1 1, 3) := by decide +kernel
theorem dX0_turnRound_38 : decode cX0_turnRound 38 = .ok (.goto (-36), 3) := by decide +kernel
theorem dX0_turnRound_41 : decode cX0_turnRound 41 = .ok (.aload_n 0, 1) := by decide +kernel
theorem dX0_turnRound_42 : decode cX0_turnRound 42 = .ok (.invokevirtual 34, 3) := by decide +kernel
theorem dX0_turnRound_45 : decode cX0_turnRound 45 = .ok (.return_, 1) := by decide +kernel
theorem dX0_swap_0 : decode cX0_swap 0 = .ok (.aload_n 0, 1) := by decide +kernel
theorem dX0_swap_1 : decode cX0_swap 1 = .ok (.getfield 9, 3) := by decide +kernel
theorem dX0_swap_4 : decode cX0_swap 4 = .ok (.iload_n 1, 1) := by decide +kernel
theorem dX0_swap_5 : decode cX0_swap 5 = .ok (.iaload, 1) := by decide +kernel
theorem dX0_swap_6 : decode cX0_swap 6 = .ok (.istore_n 3, 1) := by decide +kernel
theorem dX0_swap_7 : decode cX0_swap 7 = .ok (.aload_n 0, 1) := by decide +kernel
theorem dX0_swap_8 : decode cX0_swap 8 = .ok (.getfield 9, 3) := by decide +kernel
theorem dX0_swap_11 : decode cX0_swap 11 = .ok (.iload_n 1, 1) := by decide +kernel
theorem dX0_swap_12 : decode cX0_swap 12 = .ok (.aload_n 0, 1) := by decide +kernel
theorem dX0_swap_13 : decode cX0_swap 13 = .ok (.getfield 9, 3) := by decide +kernel
theorem dX0_swap_16 : decode cX0_swap 16 = .ok (.iload_n 2, 1) := by decide +kernel
theorem dX0_swap_17 : decode cX0_swap 17 = .ok (.iaload, 1) := by decide +kernel
theorem dX0_swap_18 : decode cX0_swap 18 = .ok (.iastore, 1) := by decide +kernel
theorem dX0_swap_19 : decode cX0_swap 19 = .ok (.aload_n 0, 1) := by decide +kernel
theorem dX0_swap_20 : decode cX0_swap 20 = .ok (.getfield 9, 3) := by decide +kernel
theorem dX0_swap_23 : decode cX0_swap 23 = .ok (.iload_n 2, 1) := by decide +kernel
theorem dX0_swap_24 : decode cX0_swap 24 = .ok (.iload_n 3, 1) := by decide +kernel
theorem dX0_swap_25 : decode cX0_swap 25 = .ok (.iastore, 1) := by decide +kernel
theorem dX0_swap_26 : decode cX0_swap 26 = .ok (.return_, 1) := by decide +kernel
theorem dX0_halveAll_0 : decode cX0_halveAll 0 = .ok (.iconst 0, 1) := by decide +kernel
theorem dX0_halveAll_1 : decode cX0_halveAll 1 = .ok (.istore_n 1, 1) := by decide +kernel
theorem dX0_halveAll_2 : decode cX0_halveAll 2 = .ok (.iload_n 1, 1) := by decide +kernel
theorem dX0_halveAll_3 : decode cX0_halveAll 3 = .ok (.bipush 8, 2) := by decide +kernel
theorem dX0_halveAll_5 : decode cX0_halveAll 5 = .ok (.if_icmp .ge 27, 3) := by decide +kernel
theorem dX0_halveAll_8 : decode cX0_halveAll 8 = .ok (.aload_n 0, 1) := by decide +kernel
theorem dX0_halveAll_9 : decode cX0_halveAll 9 = .ok (.getfield 15, 3) := by decide +kernel
theorem dX0_halveAll_12 : decode cX0_halveAll 12 = .ok (.bipush 8, 2) := by decide +kernel
theorem dX0_halveAll_14 : decode cX0_halveAll 14 = .ok (.iload_n 1, 1) := by decide +kernel
theorem dX0_halveAll_15 : decode cX0_halveAll 15 = .ok (.iadd, 1) := by decide +kernel
theorem dX0_halveAll_16 : decode cX0_halveAll 16 = .ok (.aload_n 0, 1) := by decide +kernel
theorem dX0_halveAll_17 : decode cX0_halveAll 17 = .ok (.getfield 9, 3) := by decide +kernel
theorem dX0_halveAll_20 : decode cX0_halveAll 20 = .ok (.iload_n 1, 1) := by decide +kernel
theorem dX0_halveAll_21 : decode cX0_halveAll 21 = .ok (.iaload, 1) := by decide +kernel
theorem dX0_halveAll_22 : decode cX0_halveAll 22 = .ok (.ldc 45, 2) := by decide +kernel
theorem dX0_halveAll_24 : decode cX0_halveAll 24 = .ok (.imul, 1) := by decide +kernel
theorem dX0_halveAll_25 : decode cX0_halveAll 25 = .ok (.iastore, 1) := by decide +kernel
theorem dX0_halveAll_26 : decode cX0_halveAll 26 = .ok (.iinc 1 1, 3) := by decide +kernel
theorem dX0_halveAll_29 : decode cX0_halveAll 29 = .ok (.goto (-27), 3) := by decide +kernel
theorem dX0_halveAll_32 : decode cX0_halveAll 32 = .ok (.iconst 1, 1) := by decide +kernel
theorem dX0_halveAll_33 : decode cX0_halveAll 33 = .ok (.istore_n 1, 1) := by decide +kernel
theorem dX0_halveAll_34 : decode cX0_halveAll 34 = .ok (.iload_n 1, 1) := by decide +kernel
theorem dX0_halveAll_35 : decode cX0_halveAll 35 = .ok (.bipush 32, 2) := by decide +kernel
theorem dX0_halveAll_37 : decode cX0_halveAll 37 = .ok (.if_icmp .ge 21, 3) := by decide +kernel
theorem dX0_halveAll_40 : decode cX0_halveAll 40 = .ok (.aload_n 0, 1) := by decide +kernel
theorem dX0_halveAll_41 : decode cX0_halveAll 41 = .ok (.iload_n 1, 1) := by decide +kernel
theorem dX0_halveAll_42 : decode cX0_halveAll 42 = .ok (.iconst 0, 1) := by decide +kernel
theorem dX0_halveAll_43 : decode cX0_halveAll 43 = .ok (.invokevirtual 46, 3) := by decide +kernel
theorem dX0_halveAll_46 : decode cX0_halveAll 46 = .ok (.aload_n 0, 1) := by decide +kernel
theorem dX0_halveAll_47 : decode cX0_halveAll 47 = .ok (.iload_n 1, 1) := by decide +kernel
theorem dX0_halveAll_48 : decode cX0_halveAll 48 = .ok (.iconst 1, 1) := by decide +kernel
theorem dX0_halveAll_49 : decode cX0_halveAll 49 = .ok (.invokevirtual 46, 3) := by decide +kernel
theorem dX0_halveAll_52 : decode cX0_halveAll 52 = .ok (.iinc 1 1, 3) := by decide +kernel
theorem dX0_halveAll_55 : decode cX0_halveAll 55 = .ok (.goto (-21), 3) := by decide +kernel
theorem dX0_halveAll_58 : decode cX0_halveAll 58 = .ok (.iconst 1, 1) := by decide +kernel
theorem dX0_halveAll_59 : decode cX0_halveAll 59 = .ok (.istore_n 1, 1) := by decide +kernel
theorem dX0_halveAll_60 : decode cX0_halveAll 60 = .ok (.iload_n 1, 1) := by decide +kernel
theorem dX0_halveAll_61 : decode cX0_halveAll 61 = .ok (.bipush 63, 2) := by decide +kernel
theorem dX0_halveAll_63 : decode cX0_halveAll 63 = .ok (.if_icmp .gt 26, 3) := by decide +kernel
theorem dX0_halveAll_66 : decode cX0_halveAll 66 = .ok (.aload_n 0, 1) := by decide +kernel
theorem dX0_halveAll_67 : decode cX0_halveAll 67 = .ok (.iload_n 1, 1) := by decide +kernel
theorem dX0_halveAll_68 : decode cX0_halveAll 68 = .ok (.iconst 0, 1) := by decide +kernel
theorem dX0_halveAll_69 : decode cX0_halveAll 69 = .ok (.invokevirtual 49, 3) := by decide +kernel
theorem dX0_halveAll_72 : decode cX0_halveAll 72 = .ok (.aload_n 0, 1) := by decide +kernel
theorem dX0_halveAll_73 : decode cX0_halveAll 73 = .ok (.iload_n 1, 1) := by decide +kernel
theorem dX0_halveAll_74 : decode cX0_halveAll 74 = .ok (.iconst 1, 1) := by decide +kernel
theorem dX0_halveAll_75 : decode cX0_halveAll 75 = .ok (.invokevirtual 49, 3) := by decide +kernel
theorem dX0_halveAll_78 : decode cX0_halveAll 78 = .ok (.aload_n 0, 1) := by decide +kernel
theorem dX0_halveAll_79 : decode cX0_halveAll 79 = .ok (.iload_n 1, 1) := by decide +kernel
theorem dX0_halveAll_80 : decode cX0_halveAll 80 = .ok (.invokevirtual 52, 3) := by decide +kernel
theorem dX0_halveAll_83 : decode cX0_halveAll 83 = .ok (.iinc 1 1, 3) := by decide +kernel
theorem dX0_halveAll_86 : decode cX0_halveAll 86 = .ok (.goto (-26), 3) := by decide +kernel
theorem dX0_halveAll_89 : decode cX0_halveAll 89 = .ok (.return_, 1) := by decide +kernel
theorem dX0_halve_0 : decode cX0_halve 0 = .ok (.aload_n 0, 1) := by decide +kernel
theorem dX0_halve_1 : decode cX0_halve 1 = .ok (.iload_n 1, 1) := by decide +kernel
theorem dX0_halve_2 : decode cX0_halve 2 = .ok (.iconst 0, 1) := by decide +kernel
theorem dX0_halve_3 : decode cX0_halve 3 = .ok (.iload_n 2, 1) := by decide +kernel
theorem dX0_halve_4 : decode cX0_halve 4 = .ok (.invokevirtual 56, 3) := by decide +kernel
theorem dX0_halve_7 : decode cX0_halve 7 = .ok (.istore_n 3, 1) := by decide +kernel
theorem dX0_halve_8 : decode cX0_halve 8 = .ok (.aload_n 0, 1) := by decide +kernel
theorem dX0_halve_9 : decode cX0_halve 9 = .ok (.iload_n 1, 1) := by decide +kernel
theorem dX0_halve_10 : decode cX0_halve 10 = .ok (.iconst 1, 1) := by decide +kernel
theorem dX0_halve_11 : decode cX0_halve 11 = .ok (.iload_n 2, 1) := by decide +kernel
theorem dX0_halve_12 : decode cX0_halve 12 = .ok (.invokevirtual 56, 3) := by decide +kernel
theorem dX0_halve_15 : decode cX0_halve 15 = .ok (.istore 4, 2) := by decide +kernel
theorem dX0_halve_17 : decode cX0_halve 17 = .ok (.aload_n 0, 1) := by decide +kernel
theorem dX0_halve_18 : decode cX0_halve 18 = .ok (.iload_n 1, 1) := by decide +kernel
theorem dX0_halve_19 : decode cX0_halve 19 = .ok (.iconst 2, 1) := by decide +kernel
theorem dX0_halve_20 : decode cX0_halve 20 = .ok (.iload_n 2, 1) := by decide +kernel
theorem dX0_halve_21 : decode cX0_halve 21 = .ok (.invokevirtual 56, 3) := by decide +kernel
theorem dX0_halve_24 : decode cX0_halve 24 = .ok (.istore 5, 2) := by decide +kernel
theorem dX0_halve_26 : decode cX0_halve 26 = .ok (.aload_n 0, 1) := by decide +kernel
theorem dX0_halve_27 : decode cX0_halve 27 = .ok (.iload_n 1, 1) := by decide +kernel
theorem dX0_halve_28 : decode cX0_halve 28 = .ok (.iconst 3, 1) := by decide +kernel
theorem dX0_halve_29 : decode cX0_halve 29 = .ok (.iload_n 2, 1) := by decide +kernel
theorem dX0_halve_30 : decode cX0_halve 30 = .ok (.invokevirtual 56, 3) := by decide +kernel
theorem dX0_halve_33 : decode cX0_halve 33 = .ok (.istore 6, 2) := by decide +kernel
theorem dX0_halve_35 : decode cX0_halve 35 = .ok (.iload_n 3, 1) := by decide +kernel
theorem dX0_halve_36 : decode cX0_halve 36 = .ok (.iload 4, 2) := by decide +kernel
theorem dX0_halve_38 : decode cX0_halve 38 = .ok (.iadd, 1) := by decide +kernel
theorem dX0_halve_39 : decode cX0_halve 39 = .ok (.iconst 2, 1) := by decide +kernel
theorem dX0_halve_40 : decode cX0_halve 40 = .ok (.idiv, 1) := by decide +kernel
theorem dX0_halve_41 : decode cX0_halve 41 = .ok (.istore 7, 2) := by decide +kernel
theorem dX0_halve_43 : decode cX0_halve 43 = .ok (.iload 4, 2) := by decide +kernel
theorem dX0_halve_45 : decode cX0_halve 45 = .ok (.iload 5, 2) := by decide +kernel
theorem dX0_halve_47 : decode cX0_halve 47 = .ok (.iadd, 1) := by decide +kernel
theorem dX0_halve_48 : decode cX0_halve 48 = .ok (.iconst 2, 1) := by decide +kernel
theorem dX0_halve_49 : decode cX0_halve 49 = .ok (.idiv, 1) := by decide +kernel
theorem dX0_halve_50 : decode cX0_halve 50 = .ok (.istore 8, 2) := by decide +kernel
theorem dX0_halve_52 : decode cX0_halve 52 = .ok (.iload 5, 2) := by decide +kernel
theorem dX0_halve_54 : decode cX0_halve 54 = .ok (.iload 6, 2) := by decide +kernel
theorem dX0_halve_56 : decode cX0_halve 56 = .ok (.iadd, 1) := by decide +kernel
theorem dX0_halve_57 : decode cX0_halve 57 = .ok (.iconst 2, 1) := by decide +kernel
theorem dX0_halve_58 : decode cX0_halve 58 = .ok (.idiv, 1) := by decide +kernel
theorem dX0_halve_59 : decode cX0_halve 59 = .ok (.istore 9, 2) := by decide +kernel
theorem dX0_halve_61 : decode cX0_halve 61 = .ok (.iload 7, 2) := by decide +kernel
theorem dX0_halve_63 : decode cX0_halve 63 = .ok (.iload 8, 2) := by decide +kernel
theorem dX0_halve_65 : decode cX0_halve 65 = .ok (.iadd, 1) := by decide +kernel
theorem dX0_halve_66 : decode cX0_halve 66 = .ok (.iconst 2, 1) := by decide +kernel
theorem dX0_halve_67 : decode cX0_halve 67 = .ok (.idiv, 1) := by decide +kernel
theorem dX0_halve_68 : decode cX0_halve 68 = .ok (.istore 10, 2) := by decide +kernel
theorem dX0_halve_70 : decode cX0_halve 70 = .ok (.iload 8, 2) := by decide +kernel
theorem dX0_halve_72 : decode cX0_halve 72 = .ok (.iload 9, 2) := by decide +kernel
theorem dX0_halve_74 : decode cX0_halve 74 = .ok (.iadd, 1) := by decide +kernel
theorem dX0_halve_75 : decode cX0_halve 75 = .ok (.iconst 2, 1) := by decide +kernel
theorem dX0_halve_76 : decode cX0_halve 76 = .ok (.idiv, 1) := by decide +kernel
theorem dX0_halve_77 : decode cX0_halve 77 = .ok (.istore 11, 2) := by decide +kernel
theorem dX0_halve_79 : decode cX0_halve 79 = .ok (.iload 10, 2) := by decide +kernel
theorem dX0_halve_81 : decode cX0_halve 81 = .ok (.iload 11, 2) := by decide +kernel
theorem dX0_halve_83 : decode cX0_halve 83 = .ok (.iadd, 1) := by decide +kernel
theorem dX0_halve_84 : decode cX0_halve 84 = .ok (.iconst 2, 1) := by decide +kernel
theorem dX0_halve_85 : decode cX0_halve 85 = .ok (.idiv, 1) := by decide +kernel
theorem dX0_halve_86 : decode cX0_halve 86 = .ok (.istore 12, 2) := by decide +kernel
theorem dX0_halve_88 : decode cX0_halve 88 = .ok (.iconst 2, 1) := by decide +kernel
theorem dX0_halve_89 : decode cX0_halve 89 = .ok (.iload_n 1, 1) := by decide +kernel
theorem dX0_halve_90 : decode cX0_halve 90 = .ok (.imul, 1) := by decide +kernel
theorem dX0_halve_91 : decode cX0_halve 91 = .ok (.bipush 8, 2) := by decide +kernel
theorem dX0_halve_93 : decode cX0_halve 93 = .ok (.imul, 1) := by decide +kernel
theorem dX0_halve_94 : decode cX0_halve 94 = .ok (.iload_n 2, 1) := by decide +kernel
theorem dX0_halve_95 : decode cX0_halve 95 = .ok (.iadd, 1) := by decide +kernel
theorem dX0_halve_96 : decode cX0_halve 96 = .ok (.istore 13, 2) := by decide +kernel
theorem dX0_halve_98 : decode cX0_halve 98 = .ok (.aload_n 0, 1) := by decide +kernel
theorem dX0_halve_99 : decode cX0_halve 99 = .ok (.getfield 15, 3) := by decide +kernel
theorem dX0_halve_102 : decode cX0_halve 102 = .ok (.iload 13, 2) := by decide +kernel
theorem dX0_halve_104 : decode cX0_halve 104 = .ok (.iload_n 3, 1) := by decide +kernel
theorem dX0_halve_105 : decode cX0_halve 105 = .ok (.iastore, 1) := by decide +kernel
theorem dX0_halve_106 : decode cX0_halve 106 = .ok (.aload_n 0, 1) := by decide +kernel
theorem dX0_halve_107 : decode cX0_halve 107 = .ok (.getfield 15, 3) := by decide +kernel
theorem dX0_halve_110 : decode cX0_halve 110 = .ok (.iload 13, 2) := by decide +kernel
theorem dX0_halve_112 : decode cX0_halve 112 = .ok (.iconst 2, 1) := by decide +kernel
theorem dX0_halve_113 : decode cX0_halve 113 = .ok (.iadd, 1) := by decide +kernel
theorem dX0_halve_114 : decode cX0_halve 114 = .ok (.iload 7, 2) := by decide +kernel
theorem dX0_halve_116 : decode cX0_halve 116 = .ok (.iastore, 1) := by decide +kernel
theorem dX0_halve_117 : decode cX0_halve 117 = .ok (.aload_n 0, 1) := by decide +kernel
theorem dX0_halve_118 : decode cX0_halve 118 = .ok (.getfield 15, 3) := by decide +kernel
theorem dX0_halve_121 : decode cX0_halve 121 = .ok (.iload 13, 2) := by decide +kernel
theorem dX0_halve_123 : decode cX0_halve 123 = .ok (.iconst 4, 1) := by decide +kernel
theorem dX0_halve_124 : decode cX0_halve 124 = .ok (.iadd, 1) := by decide +kernel
theorem dX0_halve_125 : decode cX0_halve 125 = .ok (.iload 10, 2) := by decide +kernel
theorem dX0_halve_127 : decode cX0_halve 127 = .ok (.iastore, 1) := by decide +kernel
theorem dX0_halve_128 : decode cX0_halve 128 = .ok (.aload_n 0, 1) := by decide +kernel
theorem dX0_halve_129 : decode cX0_halve 129 = .ok (.getfield 15, 3) := by decide +kernel
theorem dX0_halve_132 : decode cX0_halve 132 = .ok (.iload 13, 2) := by decide +kernel
theorem dX0_halve_134 : decode cX0_halve 134 = .ok (.bipush 6, 2) := by decide +kernel
theorem dX0_halve_136 : decode cX0_halve 136 = .ok (.iadd, 1) := by decide +kernel
theorem dX0_halve_137 : decode cX0_halve 137 = .ok (.iload 12, 2) := by decide +kernel
theorem dX0_halve_139 : decode cX0_halve 139 = .ok (.iastore, 1) := by decide +kernel
theorem dX0_halve_140 : decode cX0_halve 140 = .ok (.iload 13, 2) := by decide +kernel
theorem dX0_halve_142 : decode cX0_halve 142 = .ok (.bipush 8, 2) := by decide +kernel
theorem dX0_halve_144 : decode cX0_halve 144 = .ok (.iadd, 1) := by decide +kernel
theorem dX0_halve_145 : decode cX0_halve 145 = .ok (.istore 14, 2) := by decide +kernel
theorem dX0_halve_147 : decode cX0_halve 147 = .ok (.aload_n 0, 1) := by decide +kernel
theorem dX0_halve_148 : decode cX0_halve 148 = .ok (.getfield 15, 3) := by decide +kernel
theorem dX0_halve_151 : decode cX0_halve 151 = .ok (.iload 14, 2) := by decide +kernel
theorem dX0_halve_153 : decode cX0_halve 153 = .ok (.iload 12, 2) := by decide +kernel
theorem dX0_halve_155 : decode cX0_halve 155 = .ok (.iastore, 1) := by decide +kernel
theorem dX0_halve_156 : decode cX0_halve 156 = .ok (.aload_n 0, 1) := by decide +kernel
theorem dX0_halve_157 : decode cX0_halve 157 = .ok (.getfield 15, 3) := by decide +kernel
theorem dX0_halve_160 : decode cX0_halve 160 = .ok (.iload 14, 2) := by decide +kernel
theorem dX0_halve_162 : decode cX0_halve 162 = .ok (.iconst 2, 1) := by decide +kernel
theorem dX0_halve_163 : decode cX0_halve 163 = .ok (.iadd, 1) := by decide +kernel
theorem dX0_halve_164 : decode cX0_halve 164 = .ok (.iload 11, 2) := by decide +kernel
theorem dX0_halve_166 : decode cX0_halve 166 = .ok (.iastore, 1) := by decide +kernel
theorem dX0_halve_167 : decode cX0_halve 167 = .ok (.aload_n 0, 1) := by decide +kernel
theorem dX0_halve_168 : decode cX0_halve 168 = .ok (.getfield 15, 3) := by decide +kernel
theorem dX0_halve_171 : decode cX0_halve 171 = .ok (.iload 14, 2) := by decide +kernel
theorem dX0_halve_173 : decode cX0_halve 173 = .ok (.iconst 4, 1) := by decide +kernel
theorem dX0_halve_174 : decode cX0_halve 174 = .ok (.iadd, 1) := by decide +kernel
theorem dX0_halve_175 : decode cX0_halve 175 = .ok (.iload 9, 2) := by decide +kernel
theorem dX0_halve_177 : decode cX0_halve 177 = .ok (.iastore, 1) := by decide +kernel
theorem dX0_halve_178 : decode cX0_halve 178 = .ok (.aload_n 0, 1) := by decide +kernel
theorem dX0_halve_179 : decode cX0_halve 179 = .ok (.getfield 15, 3) := by decide +kernel
theorem dX0_halve_182 : decode cX0_halve 182 = .ok (.iload 14, 2) := by decide +kernel
theorem dX0_halve_184 : decode cX0_halve 184 = .ok (.bipush 6, 2) := by decide +kernel
theorem dX0_halve_186 : decode cX0_halve 186 = .ok (.iadd, 1) := by decide +kernel
theorem dX0_halve_187 : decode cX0_halve 187 = .ok (.iload 6, 2) := by decide +kernel
theorem dX0_halve_189 : decode cX0_halve 189 = .ok (.iastore, 1) := by decide +kernel
theorem dX0_halve_190 : decode cX0_halve 190 = .ok (.return_, 1) := by decide +kernel
theorem dX0_measureBox_0 : decode cX0_measureBox 0 = .ok (.aload_n 0, 1) := by decide +kernel
theorem dX0_measureBox_1 : decode cX0_measureBox 1 = .ok (.iload_n 1, 1) := by decide +kernel
theorem dX0_measureBox_2 : decode cX0_measureBox 2 = .ok (.iconst 0, 1) := by decide +kernel
theorem dX0_measureBox_3 : decode cX0_measureBox 3 = .ok (.iload_n 2, 1) := by decide +kernel
theorem dX0_measureBox_4 : decode cX0_measureBox 4 = .ok (.invokevirtual 56, 3) := by decide +kernel
theorem dX0_measureBox_7 : decode cX0_measureBox 7 = .ok (.istore_n 3, 1) := by decide +kernel
theorem dX0_measureBox_8 : decode cX0_measureBox 8 = .ok (.iload_n 3, 1) := by decide +kernel
theorem dX0_measureBox_9 : decode cX0_measureBox 9 = .ok (.istore 4, 2) := by decide +kernel
theorem dX0_measureBox_11 : decode cX0_measureBox 11 = .ok (.iconst 1, 1) := by decide +kernel
theorem dX0_measureBox_12 : decode cX0_measureBox 12 = .ok (.istore 5, 2) := by decide +kernel
theorem dX0_measureBox_14 : decode cX0_measureBox 14 = .ok (.iload 5, 2) := by decide +kernel
theorem dX0_measureBox_16 : decode cX0_measureBox 16 = .ok (.iconst 4, 1) := by decide +kernel
theorem dX0_measureBox_17 : decode cX0_measureBox 17 = .ok (.if_icmp .ge 37, 3) := by decide +kernel
theorem dX0_measureBox_20 : decode cX0_measureBox 20 = .ok (.iload_n 3, 1) := by decide +kernel
theorem dX0_measureBox_21 : decode cX0_measureBox 21 = .ok (.aload_n 0, 1) := by decide +kernel
theorem dX0_measureBox_22 : decode cX0_measureBox 22 = .ok (.iload_n 1, 1) := by decide +kernel
theorem dX0_measureBox_23 : decode cX0_measureBox 23 = .ok (.iload 5, 2) := by decide +kernel
theorem dX0_measureBox_25 : decode cX0_measureBox 25 = .ok (.iload_n 2, 1) := by decide +kernel
theorem dX0_measureBox_26 : decode cX0_measureBox 26 = .ok (.invokevirtual 56, 3) := by decide +kernel
theorem dX0_measureBox_29 : decode cX0_measureBox 29 = .ok (.invokestatic 60, 3) := by decide +kernel
theorem dX0_measureBox_32 : decode cX0_measureBox 32 = .ok (.istore_n 3, 1) := by decide +kernel
theorem dX0_measureBox_33 : decode cX0_measureBox 33 = .ok (.iload 4, 2) := by decide +kernel
theorem dX0_measureBox_35 : decode cX0_measureBox 35 = .ok (.aload_n 0, 1) := by decide +kernel
theorem dX0_measureBox_36 : decode cX0_measureBox 36 = .ok (.iload_n 1, 1) := by decide +kernel
theorem dX0_measureBox_37 : decode cX0_measureBox 37 = .ok (.iload 5, 2) := by decide +kernel
theorem dX0_measureBox_39 : decode cX0_measureBox 39 = .ok (.iload_n 2, 1) := by decide +kernel
theorem dX0_measureBox_40 : decode cX0_measureBox 40 = .ok (.invokevirtual 56, 3) := by decide +kernel
theorem dX0_measureBox_43 : decode cX0_measureBox 43 = .ok (.invokestatic 66, 3) := by decide +kernel
theorem dX0_measureBox_46 : decode cX0_measureBox 46 = .ok (.istore 4, 2) := by decide +kernel
theorem dX0_measureBox_48 : decode cX0_measureBox 48 = .ok (.iinc 5 1, 3) := by decide +kernel
theorem dX0_measureBox_51 : decode cX0_measureBox 51 = .ok (.goto (-37), 3) := by decide +kernel
theorem dX0_measureBox_54 : decode cX0_measureBox 54 = .ok (.aload_n 0, 1) := by decide +kernel
theorem dX0_measureBox_55 : decode cX0_measureBox 55 = .ok (.getfield 18, 3) := by decide +kernel
theorem dX0_measureBox_58 : decode cX0_measureBox 58 = .ok (.iconst 4, 1) := by decide +kernel
theorem dX0_measureBox_59 : decode cX0_measureBox 59 = .ok (.iload_n 1, 1) := by decide +kernel
theorem dX0_measureBox_60 : decode cX0_measureBox 60 = .ok (.imul, 1) := by decide +kernel
theorem dX0_measureBox_61 : decode cX0_measureBox 61 = .ok (.iconst 2, 1) := by decide +kernel
theorem dX0_measureBox_62 : decode cX0_measureBox 62 = .ok (.iload_n 2, 1) := by decide +kernel
theorem dX0_measureBox_63 : decode cX0_measureBox 63 = .ok (.imul, 1) := by decide +kernel
theorem dX0_measureBox_64 : decode cX0_measureBox 64 = .ok (.iadd, 1) := by decide +kernel
theorem dX0_measureBox_65 : decode cX0_measureBox 65 = .ok (.iload_n 3, 1) := by decide +kernel
theorem dX0_measureBox_66 : decode cX0_measureBox 66 = .ok (.iastore, 1) := by decide +kernel
theorem dX0_measureBox_67 : decode cX0_measureBox 67 = .ok (.aload_n 0, 1) := by decide +kernel
theorem dX0_measureBox_68 : decode cX0_measureBox 68 = .ok (.getfield 18, 3) := by decide +kernel
theorem dX0_measureBox_71 : decode cX0_measureBox 71 = .ok (.iconst 4, 1) := by decide +kernel
theorem dX0_measureBox_72 : decode cX0_measureBox 72 = .ok (.iload_n 1, 1) := by decide +kernel
theorem dX0_measureBox_73 : decode cX0_measureBox 73 = .ok (.imul, 1) := by decide +kernel
theorem dX0_measureBox_74 : decode cX0_measureBox 74 = .ok (.iconst 2, 1) := by decide +kernel
theorem dX0_measureBox_75 : decode cX0_measureBox 75 = .ok (.iload_n 2, 1) := by decide +kernel
theorem dX0_measureBox_76 : decode cX0_measureBox 76 = .ok (.imul, 1) := by decide +kernel
theorem dX0_measureBox_77 : decode cX0_measureBox 77 = .ok (.iadd, 1) := by decide +kernel
theorem dX0_measureBox_78 : decode cX0_measureBox 78 = .ok (.iconst 1, 1) := by decide +kernel
theorem dX0_measureBox_79 : decode cX0_measureBox 79 = .ok (.iadd, 1) := by decide +kernel
theorem dX0_measureBox_80 : decode cX0_measureBox 80 = .ok (.iload 4, 2) := by decide +kernel
theorem dX0_measureBox_82 : decode cX0_measureBox 82 = .ok (.iastore, 1) := by decide +kernel
theorem dX0_measureBox_83 : decode cX0_measureBox 83 = .ok (.return_, 1) := by decide +kernel
theorem dX0_measureBand_0 : decode cX0_measureBand 0 = .ok (.aload_n 0, 1) := by decide +kernel
theorem dX0_measureBand_1 : decode cX0_measureBand 1 = .ok (.getfield 21, 3) := by decide +kernel
theorem dX0_measureBand_4 : decode cX0_measureBand 4 = .ok (.iload_n 1, 1) := by decide +kernel
theorem dX0_measureBand_5 : decode cX0_measureBand 5 = .ok (.lconst 0, 1) := by decide +kernel
theorem dX0_measureBand_6 : decode cX0_measureBand 6 = .ok (.lastore, 1) := by decide +kernel
theorem dX0_measureBand_7 : decode cX0_measureBand 7 = .ok (.aload_n 0, 1) := by decide +kernel
theorem dX0_measureBand_8 : decode cX0_measureBand 8 = .ok (.getfield 25, 3) := by decide +kernel
theorem dX0_measureBand_11 : decode cX0_measureBand 11 = .ok (.iload_n 1, 1) := by decide +kernel
theorem dX0_measureBand_12 : decode cX0_measureBand 12 = .ok (.lconst 0, 1) := by decide +kernel
theorem dX0_measureBand_13 : decode cX0_measureBand 13 = .ok (.lastore, 1) := by decide +kernel
theorem dX0_measureBand_14 : decode cX0_measureBand 14 = .ok (.iconst 1, 1) := by decide +kernel
theorem dX0_measureBand_15 : decode cX0_measureBand 15 = .ok (.istore_n 2, 1) := by decide +kernel
theorem dX0_measureBand_16 : decode cX0_measureBand 16 = .ok (.iload_n 2, 1) := by decide +kernel
theorem dX0_measureBand_17 : decode cX0_measureBand 17 = .ok (.iconst 3, 1) := by decide +kernel
theorem dX0_measureBand_18 : decode cX0_measureBand 18 = .ok (.if_icmp .ge 50, 3) := by decide +kernel
theorem dX0_measureBand_21 : decode cX0_measureBand 21 = .ok (.aload_n 0, 1) := by decide +kernel
theorem dX0_measureBand_22 : decode cX0_measureBand 22 = .ok (.iload_n 1, 1) := by decide +kernel
theorem dX0_measureBand_23 : decode cX0_measureBand 23 = .ok (.aload_n 0, 1) := by decide +kernel
theorem dX0_measureBand_24 : decode cX0_measureBand 24 = .ok (.iload_n 1, 1) := by decide +kernel
theorem dX0_measureBand_25 : decode cX0_measureBand 25 = .ok (.iload_n 2, 1) := by decide +kernel
theorem dX0_measureBand_26 : decode cX0_measureBand 26 = .ok (.invokestatic 69, 3) := by decide +kernel
theorem dX0_measureBand_29 : decode cX0_measureBand 29 = .ok (.lstore_n 3, 1) := by decide +kernel
theorem dX0_measureBand_30 : decode cX0_measureBand 30 = .ok (.aload_n 0, 1) := by decide +kernel
theorem dX0_measureBand_31 : decode cX0_measureBand 31 = .ok (.getfield 21, 3) := by decide +kernel
theorem dX0_measureBand_34 : decode cX0_measureBand 34 = .ok (.iload_n 1, 1) := by decide +kernel
theorem dX0_measureBand_35 : decode cX0_measureBand 35 = .ok (.aload_n 0, 1) := by decide +kernel
theorem dX0_measureBand_36 : decode cX0_measureBand 36 = .ok (.getfield 21, 3) := by decide +kernel
theorem dX0_measureBand_39 : decode cX0_measureBand 39 = .ok (.iload_n 1, 1) := by decide +kernel
theorem dX0_measureBand_40 : decode cX0_measureBand 40 = .ok (.laload, 1) := by decide +kernel
theorem dX0_measureBand_41 : decode cX0_measureBand 41 = .ok (.lload_n 3, 1) := by decide +kernel
theorem dX0_measureBand_42 : decode cX0_measureBand 42 = .ok (.invokestatic 75, 3) := by decide +kernel
theorem dX0_measureBand_45 : decode cX0_measureBand 45 = .ok (.lastore, 1) := by decide +kernel
theorem dX0_measureBand_46 : decode cX0_measureBand 46 = .ok (.aload_n 0, 1) := by decide +kernel
theorem dX0_measureBand_47 : decode cX0_measureBand 47 = .ok (.getfield 25, 3) := by decide +kernel
theorem dX0_measureBand_50 : decode cX0_measureBand 50 = .ok (.iload_n 1, 1) := by decide +kernel
theorem dX0_measureBand_51 : decode cX0_measureBand 51 = .ok (.aload_n 0, 1) := by decide +kernel
theorem dX0_measureBand_52 : decode cX0_measureBand 52 = .ok (.getfield 25, 3) := by decide +kernel
theorem dX0_measureBand_55 : decode cX0_measureBand 55 = .ok (.iload_n 1, 1) := by decide +kernel
theorem dX0_measureBand_56 : decode cX0_measureBand 56 = .ok (.laload, 1) := by decide +kernel
theorem dX0_measureBand_57 : decode cX0_measureBand 57 = .ok (.lload_n 3, 1) := by decide +kernel
theorem dX0_measureBand_58 : decode cX0_measureBand 58 = .ok (.invokestatic 78, 3) := by decide +kernel
theorem dX0_measureBand_61 : decode cX0_measureBand 61 = .ok (.lastore, 1) := by decide +kernel
theorem dX0_measureBand_62 : decode cX0_measureBand 62 = .ok (.iinc 2 1, 3) := by decide +kernel
theorem dX0_measureBand_65 : decode cX0_measureBand 65 = .ok (.goto (-49), 3) := by decide +kernel
theorem dX0_measureBand_68 : decode cX0_measureBand 68 = .ok (.return_, 1) := by decide +kernel
theorem dX0_at_0 : decode cX0_at 0 = .ok (.aload_n 0, 1) := by decide +kernel
theorem dX0_at_1 : decode cX0_at 1 = .ok (.getfield 15, 3) := by decide +kernel
theorem dX0_at_4 : decode cX0_at 4 = .ok (.iload_n 1, 1) := by decide +kernel
theorem dX0_at_5 : decode cX0_at 5 = .ok (.bipush 8, 2) := by decide +kernel
theorem dX0_at_7 : decode cX0_at 7 = .ok (.imul, 1) := by decide +kernel
theorem dX0_at_8 : decode cX0_at 8 = .ok (.iconst 2, 1) := by decide +kernel
theorem dX0_at_9 : decode cX0_at 9 = .ok (.iload_n 2, 1) := by decide +kernel
theorem dX0_at_10 : decode cX0_at 10 = .ok (.imul, 1) := by decide +kernel
theorem dX0_at_11 : decode cX0_at 11 = .ok (.iadd, 1) := by decide +kernel
theorem dX0_at_12 : decode cX0_at 12 = .ok (.iload_n 3, 1) := by decide +kernel
theorem dX0_at_13 : decode cX0_at 13 = .ok (.iadd, 1) := by decide +kernel
theorem dX0_at_14 : decode cX0_at 14 = .ok (.iaload, 1) := by decide +kernel
theorem dX0_at_15 : decode cX0_at 15 = .ok (.ireturn, 1) := by decide +kernel
theorem dX0_step_0 : decode cX0_step 0 = .ok (.iload_n 1, 1) := by decide +kernel
theorem dX0_step_1 : decode cX0_step 1 = .ok (.bipush 8, 2) := by decide +kernel
theorem dX0_step_3 : decode cX0_step 3 = .ok (.imul, 1) := by decide +kernel
theorem dX0_step_4 : decode cX0_step 4 = .ok (.iconst 2, 1) := by decide +kernel
theorem dX0_step_5 : decode cX0_step 5 = .ok (.iload_n 2, 1) := by decide +kernel
theorem dX0_step_6 : decode cX0_step 6 = .ok (.imul, 1) := by decide +kernel
theorem dX0_step_7 : decode cX0_step 7 = .ok (.iadd, 1) := by decide +kernel
theorem dX0_step_8 : decode cX0_step 8 = .ok (.iload_n 3, 1) := by decide +kernel
theorem dX0_step_9 : decode cX0_step 9 = .ok (.iadd, 1) := by decide +kernel
theorem dX0_step_10 : decode cX0_step 10 = .ok (.istore 4, 2) := by decide +kernel
theorem dX0_step_12 : decode cX0_step 12 = .ok (.aload_n 0, 1) := by decide +kernel
theorem dX0_step_13 : decode cX0_step 13 = .ok (.getfield 15, 3) := by decide +kernel
theorem dX0_step_16 : decode cX0_step 16 = .ok (.iload 4, 2) := by decide +kernel
theorem dX0_step_18 : decode cX0_step 18 = .ok (.iconst 2, 1) := by decide +kernel
theorem dX0_step_19 : decode cX0_step 19 = .ok (.iadd, 1) := by decide +kernel
theorem dX0_step_20 : decode cX0_step 20 = .ok (.iaload, 1) := by decide +kernel
theorem dX0_step_21 : decode cX0_step 21 = .ok (.aload_n 0, 1) := by decide +kernel
theorem dX0_step_22 : decode cX0_step 22 = .ok (.getfield 15, 3) := by decide +kernel
theorem dX0_step_25 : decode cX0_step 25 = .ok (.iload 4, 2) := by decide +kernel
theorem dX0_step_27 : decode cX0_step 27 = .ok (.iaload, 1) := by decide +kernel
theorem dX0_step_28 : decode cX0_step 28 = .ok (.isub, 1) := by decide +kernel
theorem dX0_step_29 : decode cX0_step 29 = .ok (.ireturn, 1) := by decide +kernel
theorem dX0_least_0 : decode cX0_least 0 = .ok (.aload_n 0, 1) := by decide +kernel
theorem dX0_least_1 : decode cX0_least 1 = .ok (.getfield 18, 3) := by decide +kernel
theorem dX0_least_4 : decode cX0_least 4 = .ok (.iconst 4, 1) := by decide +kernel
theorem dX0_least_5 : decode cX0_least 5 = .ok (.iload_n 1, 1) := by decide +kernel
theorem dX0_least_6 : decode cX0_least 6 = .ok (.imul, 1) := by decide +kernel
theorem dX0_least_7 : decode cX0_least 7 = .ok (.iconst 2, 1) := by decide +kernel
theorem dX0_least_8 : decode cX0_least 8 = .ok (.iload_n 2, 1) := by decide +kernel
theorem dX0_least_9 : decode cX0_least 9 = .ok (.imul, 1) := by decide +kernel
theorem dX0_least_10 : decode cX0_least 10 = .ok (.iadd, 1) := by decide +kernel
theorem dX0_least_11 : decode cX0_least 11 = .ok (.iaload, 1) := by decide +kernel
theorem dX0_least_12 : decode cX0_least 12 = .ok (.ireturn, 1) := by decide +kernel
theorem dX0_greatest_0 : decode cX0_greatest 0 = .ok (.aload_n 0, 1) := by decide +kernel
theorem dX0_greatest_1 : decode cX0_greatest 1 = .ok (.getfield 18, 3) := by decide +kernel
theorem dX0_greatest_4 : decode cX0_greatest 4 = .ok (.iconst 4, 1) := by decide +kernel
theorem dX0_greatest_5 : decode cX0_greatest 5 = .ok (.iload_n 1, 1) := by decide +kernel
theorem dX0_greatest_6 : decode cX0_greatest 6 = .ok (.imul, 1) := by decide +kernel
theorem dX0_greatest_7 : decode cX0_greatest 7 = .ok (.iconst 2, 1) := by decide +kernel
theorem dX0_greatest_8 : decode cX0_greatest 8 = .ok (.iload_n 2, 1) := by decide +kernel
theorem dX0_greatest_9 : decode cX0_greatest 9 = .ok (.imul, 1) := by decide +kernel
theorem dX0_greatest_10 : decode cX0_greatest 10 = .ok (.iadd, 1) := by decide +kernel
theorem dX0_greatest_11 : decode cX0_greatest 11 = .ok (.iconst 1, 1) := by decide +kernel
theorem dX0_greatest_12 : decode cX0_greatest 12 = .ok (.iadd, 1) := by decide +kernel
theorem dX0_greatest_13 : decode cX0_greatest 13 = .ok (.iaload, 1) := by decide +kernel
theorem dX0_greatest_14 : decode cX0_greatest 14 = .ok (.ireturn, 1) := by decide +kernel
theorem dX0_areaParts_0 : decode cX0_areaParts 0 = .ok (.iconst 0, 1) := by decide +kernel
theorem dX0_areaParts_1 : decode cX0_areaParts 1 = .ok (.istore_n 1, 1) := by decide +kernel
theorem dX0_areaParts_2 : decode cX0_areaParts 2 = .ok (.iconst 0, 1) := by decide +kernel
theorem dX0_areaParts_3 : decode cX0_areaParts 3 = .ok (.istore_n 2, 1) := by decide +kernel
theorem dX0_areaParts_4 : decode cX0_areaParts 4 = .ok (.iload_n 2, 1) := by decide +kernel
theorem dX0_areaParts_5 : decode cX0_areaParts 5 = .ok (.iconst 4, 1) := by decide +kernel
theorem dX0_areaParts_6 : decode cX0_areaParts 6 = .ok (.if_icmp .ge 80, 3) := by decide +kernel
theorem dX0_areaParts_9 : decode cX0_areaParts 9 = .ok (.iload_n 2, 1) := by decide +kernel
theorem dX0_areaParts_10 : decode cX0_areaParts 10 = .ok (.iconst 1, 1) := by decide +kernel
theorem dX0_areaParts_11 : decode cX0_areaParts 11 = .ok (.iadd, 1) := by decide +kernel
theorem dX0_areaParts_12 : decode cX0_areaParts 12 = .ok (.istore_n 3, 1) := by decide +kernel
theorem dX0_areaParts_13 : decode cX0_areaParts 13 = .ok (.iload_n 3, 1) := by decide +kernel
theorem dX0_areaParts_14 : decode cX0_areaParts 14 = .ok (.iconst 4, 1) := by decide +kernel
theorem dX0_areaParts_15 : decode cX0_areaParts 15 = .ok (.if_icmp .ge 65, 3) := by decide +kernel
theorem dX0_areaParts_18 : decode cX0_areaParts 18 = .ok (.aload_n 0, 1) := by decide +kernel
theorem dX0_areaParts_19 : decode cX0_areaParts 19 = .ok (.getfield 9, 3) := by decide +kernel
theorem dX0_areaParts_22 : decode cX0_areaParts 22 = .ok (.iconst 2, 1) := by decide +kernel
theorem dX0_areaParts_23 : decode cX0_areaParts 23 = .ok (.iload_n 2, 1) := by decide +kernel
theorem dX0_areaParts_24 : decode cX0_areaParts 24 = .ok (.imul, 1) := by decide +kernel
theorem dX0_areaParts_25 : decode cX0_areaParts 25 = .ok (.iaload, 1) := by decide +kernel
theorem dX0_areaParts_26 : decode cX0_areaParts 26 = .ok (.aload_n 0, 1) := by decide +kernel
theorem dX0_areaParts_27 : decode cX0_areaParts 27 = .ok (.getfield 9, 3) := by decide +kernel
theorem dX0_areaParts_30 : decode cX0_areaParts 30 = .ok (.iconst 2, 1) := by decide +kernel
theorem dX0_areaParts_31 : decode cX0_areaParts 31 = .ok (.iload_n 3, 1) := by decide +kernel
theorem dX0_areaParts_32 : decode cX0_areaParts 32 = .ok (.imul, 1) := by decide +kernel
theorem dX0_areaParts_33 : decode cX0_areaParts 33 = .ok (.iconst 1, 1) := by decide +kernel
theorem dX0_areaParts_34 : decode cX0_areaParts 34 = .ok (.iadd, 1) := by decide +kernel
theorem dX0_areaParts_35 : decode cX0_areaParts 35 = .ok (.iaload, 1) := by decide +kernel
theorem dX0_areaParts_36 : decode cX0_areaParts 36 = .ok (.imul, 1) := by decide +kernel
theorem dX0_areaParts_37 : decode cX0_areaParts 37 = .ok (.aload_n 0, 1) := by decide +kernel
theorem dX0_areaParts_38 : decode cX0_areaParts 38 = .ok (.getfield 9, 3) := by decide +kernel
theorem dX0_areaParts_41 : decode cX0_areaParts 41 = .ok (.iconst 2, 1) := by decide +kernel
theorem dX0_areaParts_42 : decode cX0_areaParts 42 = .ok (.iload_n 2, 1) := by decide +kernel
theorem dX0_areaParts_43 : decode cX0_areaParts 43 = .ok (.imul, 1) := by decide +kernel
theorem dX0_areaParts_44 : decode cX0_areaParts 44 = .ok (.iconst 1, 1) := by decide +kernel
theorem dX0_areaParts_45 : decode cX0_areaParts 45 = .ok (.iadd, 1) := by decide +kernel
theorem dX0_areaParts_46 : decode cX0_areaParts 46 = .ok (.iaload, 1) := by decide +kernel
theorem dX0_areaParts_47 : decode cX0_areaParts 47 = .ok (.aload_n 0, 1) := by decide +kernel
theorem dX0_areaParts_48 : decode cX0_areaParts 48 = .ok (.getfield 9, 3) := by decide +kernel
theorem dX0_areaParts_51 : decode cX0_areaParts 51 = .ok (.iconst 2, 1) := by decide +kernel
theorem dX0_areaParts_52 : decode cX0_areaParts 52 = .ok (.iload_n 3, 1) := by decide +kernel
theorem dX0_areaParts_53 : decode cX0_areaParts 53 = .ok (.imul, 1) := by decide +kernel
theorem dX0_areaParts_54 : decode cX0_areaParts 54 = .ok (.iaload, 1) := by decide +kernel
theorem dX0_areaParts_55 : decode cX0_areaParts 55 = .ok (.imul, 1) := by decide +kernel
theorem dX0_areaParts_56 : decode cX0_areaParts 56 = .ok (.isub, 1) := by decide +kernel
theorem dX0_areaParts_57 : decode cX0_areaParts 57 = .ok (.istore 4, 2) := by decide +kernel
theorem dX0_areaParts_59 : decode cX0_areaParts 59 = .ok (.iload_n 1, 1) := by decide +kernel
theorem dX0_areaParts_60 : decode cX0_areaParts 60 = .ok (.getstatic 80, 3) := by decide +kernel
theorem dX0_areaParts_63 : decode cX0_areaParts 63 = .ok (.iconst 4, 1) := by decide +kernel
theorem dX0_areaParts_64 : decode cX0_areaParts 64 = .ok (.iload_n 2, 1) := by decide +kernel
theorem dX0_areaParts_65 : decode cX0_areaParts 65 = .ok (.imul, 1) := by decide +kernel
theorem dX0_areaParts_66 : decode cX0_areaParts 66 = .ok (.iload_n 3, 1) := by decide +kernel
theorem dX0_areaParts_67 : decode cX0_areaParts 67 = .ok (.iadd, 1) := by decide +kernel
theorem dX0_areaParts_68 : decode cX0_areaParts 68 = .ok (.iaload, 1) := by decide +kernel
theorem dX0_areaParts_69 : decode cX0_areaParts 69 = .ok (.iload 4, 2) := by decide +kernel
theorem dX0_areaParts_71 : decode cX0_areaParts 71 = .ok (.imul, 1) := by decide +kernel
theorem dX0_areaParts_72 : decode cX0_areaParts 72 = .ok (.iadd, 1) := by decide +kernel
theorem dX0_areaParts_73 : decode cX0_areaParts 73 = .ok (.istore_n 1, 1) := by decide +kernel
theorem dX0_areaParts_74 : decode cX0_areaParts 74 = .ok (.iinc 3 1, 3) := by decide +kernel
theorem dX0_areaParts_77 : decode cX0_areaParts 77 = .ok (.goto (-64), 3) := by decide +kernel
theorem dX0_areaParts_80 : decode cX0_areaParts 80 = .ok (.iinc 2 1, 3) := by decide +kernel
theorem dX0_areaParts_83 : decode cX0_areaParts 83 = .ok (.goto (-79), 3) := by decide +kernel
theorem dX0_areaParts_86 : decode cX0_areaParts 86 = .ok (.iload_n 1, 1) := by decide +kernel
theorem dX0_areaParts_87 : decode cX0_areaParts 87 = .ok (.ireturn, 1) := by decide +kernel
theorem dX1_init_0 : decode cX1_init 0 = .ok (.aload_n 0, 1) := by decide +kernel
theorem dX1_init_1 : decode cX1_init 1 = .ok (.invokespecial 3, 3) := by decide +kernel
theorem dX1_init_4 : decode cX1_init 4 = .ok (.aload_n 0, 1) := by decide +kernel
theorem dX1_init_5 : decode cX1_init 5 = .ok (.bipush 10, 2) := by decide +kernel
theorem dX1_init_7 : decode cX1_init 7 = .ok (.newarray .int, 2) := by decide +kernel
theorem dX1_init_9 : decode cX1_init 9 = .ok (.putfield 9, 3) := by decide +kernel
theorem dX1_init_12 : decode cX1_init 12 = .ok (.aload_n 0, 1) := by decide +kernel
theorem dX1_init_13 : decode cX1_init 13 = .ok (.bipush 80, 2) := by decide +kernel
theorem dX1_init_15 : decode cX1_init 15 = .ok (.newarray .int, 2) := by decide +kernel
theorem dX1_init_17 : decode cX1_init 17 = .ok (.putfield 15, 3) := by decide +kernel
theorem dX1_init_20 : decode cX1_init 20 = .ok (.aload_n 0, 1) := by decide +kernel
theorem dX1_init_21 : decode cX1_init 21 = .ok (.iconst 0, 1) := by decide +kernel
theorem dX1_init_22 : decode cX1_init 22 = .ok (.putfield 18, 3) := by decide +kernel
theorem dX1_init_25 : decode cX1_init 25 = .ok (.return_, 1) := by decide +kernel
theorem dX1_adds_0 : decode cX1_adds 0 = .ok (.aload_n 0, 1) := by decide +kernel
theorem dX1_adds_1 : decode cX1_adds 1 = .ok (.getfield 18, 3) := by decide +kernel
theorem dX1_adds_4 : decode cX1_adds 4 = .ok (.bipush 10, 2) := by decide +kernel
theorem dX1_adds_6 : decode cX1_adds 6 = .ok (.if_icmp .lt 7, 3) := by decide +kernel
theorem dX1_adds_9 : decode cX1_adds 9 = .ok (.aload_n 0, 1) := by decide +kernel
theorem dX1_adds_10 : decode cX1_adds 10 = .ok (.invokevirtual 22, 3) := by decide +kernel
theorem dX1_adds_13 : decode cX1_adds 13 = .ok (.aload_n 0, 1) := by decide +kernel
theorem dX1_adds_14 : decode cX1_adds 14 = .ok (.getfield 9, 3) := by decide +kernel
theorem dX1_adds_17 : decode cX1_adds 17 = .ok (.aload_n 0, 1) := by decide +kernel
theorem dX1_adds_18 : decode cX1_adds 18 = .ok (.getfield 18, 3) := by decide +kernel
theorem dX1_adds_21 : decode cX1_adds 21 = .ok (.iload_n 1, 1) := by decide +kernel
theorem dX1_adds_22 : decode cX1_adds 22 = .ok (.iastore, 1) := by decide +kernel
theorem dX1_adds_23 : decode cX1_adds 23 = .ok (.aload_n 2, 1) := by decide +kernel
theorem dX1_adds_24 : decode cX1_adds 24 = .ok (.iconst 0, 1) := by decide +kernel
theorem dX1_adds_25 : decode cX1_adds 25 = .ok (.aload_n 0, 1) := by decide +kernel
theorem dX1_adds_26 : decode cX1_adds 26 = .ok (.getfield 15, 3) := by decide +kernel
theorem dX1_adds_29 : decode cX1_adds 29 = .ok (.aload_n 0, 1) := by decide +kernel
theorem dX1_adds_30 : decode cX1_adds 30 = .ok (.getfield 18, 3) := by decide +kernel
theorem dX1_adds_33 : decode cX1_adds 33 = .ok (.bipush 8, 2) := by decide +kernel
theorem dX1_adds_35 : decode cX1_adds 35 = .ok (.imul, 1) := by decide +kernel
theorem dX1_adds_36 : decode cX1_adds 36 = .ok (.bipush 8, 2) := by decide +kernel
theorem dX1_adds_38 : decode cX1_adds 38 = .ok (.invokestatic 25, 3) := by decide +kernel
theorem dX1_adds_41 : decode cX1_adds 41 = .ok (.aload_n 0, 1) := by decide +kernel
theorem dX1_adds_42 : decode cX1_adds 42 = .ok (.dup, 1) := by decide +kernel
theorem dX1_adds_43 : decode cX1_adds 43 = .ok (.getfield 18, 3) := by decide +kernel
theorem dX1_adds_46 : decode cX1_adds 46 = .ok (.iconst 1, 1) := by decide +kernel
theorem dX1_adds_47 : decode cX1_adds 47 = .ok (.iadd, 1) := by decide +kernel
theorem dX1_adds_48 : decode cX1_adds 48 = .ok (.putfield 18, 3) := by decide +kernel
theorem dX1_adds_51 : decode cX1_adds 51 = .ok (.return_, 1) := by decide +kernel
theorem dX1_loseOldest_0 : decode cX1_loseOldest 0 = .ok (.aload_n 0, 1) := by decide +kernel
theorem dX1_loseOldest_1 : decode cX1_loseOldest 1 = .ok (.bipush 9, 2) := by decide +kernel
theorem dX1_loseOldest_3 : decode cX1_loseOldest 3 = .ok (.putfield 18, 3) := by decide +kernel
theorem dX1_loseOldest_6 : decode cX1_loseOldest 6 = .ok (.aload_n 0, 1) := by decide +kernel
theorem dX1_loseOldest_7 : decode cX1_loseOldest 7 = .ok (.getfield 9, 3) := by decide +kernel
theorem dX1_loseOldest_10 : decode cX1_loseOldest 10 = .ok (.iconst 1, 1) := by decide +kernel
theorem dX1_loseOldest_11 : decode cX1_loseOldest 11 = .ok (.aload_n 0, 1) := by decide +kernel
theorem dX1_loseOldest_12 : decode cX1_loseOldest 12 = .ok (.getfield 9, 3) := by decide +kernel
theorem dX1_loseOldest_15 : decode cX1_loseOldest 15 = .ok (.iconst 0, 1) := by decide +kernel
theorem dX1_loseOldest_16 : decode cX1_loseOldest 16 = .ok (.aload_n 0, 1) := by decide +kernel
theorem dX1_loseOldest_17 : decode cX1_loseOldest 17 = .ok (.getfield 18, 3) := by decide +kernel
theorem dX1_loseOldest_20 : decode cX1_loseOldest 20 = .ok (.invokestatic 25, 3) := by decide +kernel
theorem dX1_loseOldest_23 : decode cX1_loseOldest 23 = .ok (.aload_n 0, 1) := by decide +kernel
theorem dX1_loseOldest_24 : decode cX1_loseOldest 24 = .ok (.getfield 15, 3) := by decide +kernel
theorem dX1_loseOldest_27 : decode cX1_loseOldest 27 = .ok (.bipush 8, 2) := by decide +kernel
theorem dX1_loseOldest_29 : decode cX1_loseOldest 29 = .ok (.aload_n 0, 1) := by decide +kernel
theorem dX1_loseOldest_30 : decode cX1_loseOldest 30 = .ok (.getfield 15, 3) := by decide +kernel
theorem dX1_loseOldest_33 : decode cX1_loseOldest 33 = .ok (.iconst 0, 1) := by decide +kernel
theorem dX1_loseOldest_34 : decode cX1_loseOldest 34 = .ok (.aload_n 0, 1) := by decide +kernel
theorem dX1_loseOldest_35 : decode cX1_loseOldest 35 = .ok (.getfield 18, 3) := by decide +kernel
theorem dX1_loseOldest_38 : decode cX1_loseOldest 38 = .ok (.bipush 8, 2) := by decide +kernel
theorem dX1_loseOldest_40 : decode cX1_loseOldest 40 = .ok (.imul, 1) := by decide +kernel
theorem dX1_loseOldest_41 : decode cX1_loseOldest 41 = .ok (.invokestatic 25, 3) := by decide +kernel
theorem dX1_loseOldest_44 : decode cX1_loseOldest 44 = .ok (.return_, 1) := by decide +kernel
theorem dX2_init_0 : decode cX2_init 0 = .ok (.aload_n 0, 1) := by decide +kernel
theorem dX2_init_1 : decode cX2_init 1 = .ok (.invokespecial 3, 3) := by decide +kernel
theorem dX2_init_4 : decode cX2_init 4 = .ok (.aload_n 0, 1) := by decide +kernel
theorem dX2_init_5 : decode cX2_init 5 = .ok (.iconst 2, 1) := by decide +kernel
theorem dX2_init_6 : decode cX2_init 6 = .ok (.newarray .boolean, 2) := by decide +kernel
theorem dX2_init_8 : decode cX2_init 8 = .ok (.putfield 9, 3) := by decide +kernel
theorem dX2_init_11 : decode cX2_init 11 = .ok (.aload_n 0, 1) := by decide +kernel
theorem dX2_init_12 : decode cX2_init 12 = .ok (.bipush 64, 2) := by decide +kernel
theorem dX2_init_14 : decode cX2_init 14 = .ok (.newarray .int, 2) := by decide +kernel
theorem dX2_init_16 : decode cX2_init 16 = .ok (.putfield 15, 3) := by decide +kernel
theorem dX2_init_19 : decode cX2_init 19 = .ok (.return_, 1) := by decide +kernel
theorem dX2_place_0 : decode cX2_place 0 = .ok (.iload_n 0, 1) := by decide +kernel
theorem dX2_place_1 : decode cX2_place 1 = .ok (.iconst 4, 1) := by decide +kernel
theorem dX2_place_2 : decode cX2_place 2 = .ok (.imul, 1) := by decide +kernel
theorem dX2_place_3 : decode cX2_place 3 = .ok (.iload_n 1, 1) := by decide +kernel
theorem dX2_place_4 : decode cX2_place 4 = .ok (.iadd, 1) := by decide +kernel
theorem dX2_place_5 : decode cX2_place 5 = .ok (.bipush 8, 2) := by decide +kernel
theorem dX2_place_7 : decode cX2_place 7 = .ok (.imul, 1) := by decide +kernel
theorem dX2_place_8 : decode cX2_place 8 = .ok (.ireturn, 1) := by decide +kernel
theorem dX2_drop_0 : decode cX2_drop 0 = .ok (.iconst 0, 1) := by decide +kernel
theorem dX2_drop_1 : decode cX2_drop 1 = .ok (.istore_n 1, 1) := by decide +kernel
theorem dX2_drop_2 : decode cX2_drop 2 = .ok (.iload_n 1, 1) := by decide +kernel
theorem dX2_drop_3 : decode cX2_drop 3 = .ok (.iconst 2, 1) := by decide +kernel
theorem dX2_drop_4 : decode cX2_drop 4 = .ok (.if_icmp .ge 16, 3) := by decide +kernel
theorem dX2_drop_7 : decode cX2_drop 7 = .ok (.aload_n 0, 1) := by decide +kernel
theorem dX2_drop_8 : decode cX2_drop 8 = .ok (.getfield 9, 3) := by decide +kernel
theorem dX2_drop_11 : decode cX2_drop 11 = .ok (.iload_n 1, 1) := by decide +kernel
theorem dX2_drop_12 : decode cX2_drop 12 = .ok (.iconst 0, 1) := by decide +kernel
theorem dX2_drop_13 : decode cX2_drop 13 = .ok (.bastore, 1) := by decide +kernel
theorem dX2_drop_14 : decode cX2_drop 14 = .ok (.iinc 1 1, 3) := by decide +kernel
theorem dX2_drop_17 : decode cX2_drop 17 = .ok (.goto (-15), 3) := by decide +kernel
theorem dX2_drop_20 : decode cX2_drop 20 = .ok (.return_, 1) := by decide +kernel
theorem dX3_init_0 : decode cX3_init 0 = .ok (.aload_n 0, 1) := by decide +kernel
theorem dX3_init_1 : decode cX3_init 1 = .ok (.invokespecial 3, 3) := by decide +kernel
theorem dX3_init_4 : decode cX3_init 4 = .ok (.aload_n 0, 1) := by decide +kernel
theorem dX3_init_5 : decode cX3_init 5 = .ok (.bipush 101, 2) := by decide +kernel
theorem dX3_init_7 : decode cX3_init 7 = .ok (.newarray .int, 2) := by decide +kernel
theorem dX3_init_9 : decode cX3_init 9 = .ok (.putfield 9, 3) := by decide +kernel
theorem dX3_init_12 : decode cX3_init 12 = .ok (.aload_n 0, 1) := by decide +kernel
theorem dX3_init_13 : decode cX3_init 13 = .ok (.bipush 101, 2) := by decide +kernel
theorem dX3_init_15 : decode cX3_init 15 = .ok (.newarray .int, 2) := by decide +kernel
theorem dX3_init_17 : decode cX3_init 17 = .ok (.putfield 15, 3) := by decide +kernel
theorem dX3_init_20 : decode cX3_init 20 = .ok (.aload_n 0, 1) := by decide +kernel
theorem dX3_init_21 : decode cX3_init 21 = .ok (.bipush 101, 2) := by decide +kernel
theorem dX3_init_23 : decode cX3_init 23 = .ok (.newarray .boolean, 2) := by decide +kernel
theorem dX3_init_25 : decode cX3_init 25 = .ok (.putfield 18, 3) := by decide +kernel
theorem dX3_init_28 : decode cX3_init 28 = .ok (.aload_n 0, 1) := by decide +kernel
theorem dX3_init_29 : decode cX3_init 29 = .ok (.bipush 101, 2) := by decide +kernel
theorem dX3_init_31 : decode cX3_init 31 = .ok (.newarray .int, 2) := by decide +kernel
theorem dX3_init_33 : decode cX3_init 33 = .ok (.putfield 22, 3) := by decide +kernel
theorem dX3_init_36 : decode cX3_init 36 = .ok (.aload_n 0, 1) := by decide +kernel
theorem dX3_init_37 : decode cX3_init 37 = .ok (.bipush 101, 2) := by decide +kernel
theorem dX3_init_39 : decode cX3_init 39 = .ok (.newarray .int, 2) := by decide +kernel
theorem dX3_init_41 : decode cX3_init 41 = .ok (.putfield 25, 3) := by decide +kernel
theorem dX3_init_44 : decode cX3_init 44 = .ok (.aload_n 0, 1) := by decide +kernel
theorem dX3_init_45 : decode cX3_init 45 = .ok (.iconst 0, 1) := by decide +kernel
theorem dX3_init_46 : decode cX3_init 46 = .ok (.putfield 28, 3) := by decide +kernel
theorem dX3_init_49 : decode cX3_init 49 = .ok (.aload_n 0, 1) := by decide +kernel
theorem dX3_init_50 : decode cX3_init 50 = .ok (.iconst 0, 1) := by decide +kernel
theorem dX3_init_51 : decode cX3_init 51 = .ok (.putfield 32, 3) := by decide +kernel
theorem dX3_init_54 : decode cX3_init 54 = .ok (.aload_n 0, 1) := by decide +kernel
theorem dX3_init_55 : decode cX3_init 55 = .ok (.iconst 0, 1) := by decide +kernel
theorem dX3_init_56 : decode cX3_init 56 = .ok (.putfield 35, 3) := by decide +kernel
theorem dX3_init_59 : decode cX3_init 59 = .ok (.aload_n 0, 1) := by decide +kernel
theorem dX3_init_60 : decode cX3_init 60 = .ok (.sipush 600, 3) := by decide +kernel
theorem dX3_init_63 : decode cX3_init 63 = .ok (.newarray .int, 2) := by decide +kernel
theorem dX3_init_65 : decode cX3_init 65 = .ok (.putfield 38, 3) := by decide +kernel
theorem dX3_init_68 : decode cX3_init 68 = .ok (.aload_n 0, 1) := by decide +kernel
theorem dX3_init_69 : decode cX3_init 69 = .ok (.bipush 100, 2) := by decide +kernel
theorem dX3_init_71 : decode cX3_init 71 = .ok (.newarray .int, 2) := by decide +kernel
theorem dX3_init_73 : decode cX3_init 73 = .ok (.putfield 41, 3) := by decide +kernel
theorem dX3_init_76 : decode cX3_init 76 = .ok (.aload_n 0, 1) := by decide +kernel
theorem dX3_init_77 : decode cX3_init 77 = .ok (.iconst (-1), 1) := by decide +kernel
theorem dX3_init_78 : decode cX3_init 78 = .ok (.putfield 44, 3) := by decide +kernel
theorem dX3_init_81 : decode cX3_init 81 = .ok (.aload_n 0, 1) := by decide +kernel
theorem dX3_init_82 : decode cX3_init 82 = .ok (.iconst (-1), 1) := by decide +kernel
theorem dX3_init_83 : decode cX3_init 83 = .ok (.putfield 47, 3) := by decide +kernel
theorem dX3_init_86 : decode cX3_init 86 = .ok (.aload_n 0, 1) := by decide +kernel
theorem dX3_init_87 : decode cX3_init 87 = .ok (.bipush 16, 2) := by decide +kernel
theorem dX3_init_89 : decode cX3_init 89 = .ok (.newarray .int, 2) := by decide +kernel
theorem dX3_init_91 : decode cX3_init 91 = .ok (.putfield 50, 3) := by decide +kernel
theorem dX3_init_94 : decode cX3_init 94 = .ok (.return_, 1) := by decide +kernel
theorem dX3_outdate_0 : decode cX3_outdate 0 = .ok (.aload_n 0, 1) := by decide +kernel
theorem dX3_outdate_1 : decode cX3_outdate 1 = .ok (.iconst (-1), 1) := by decide +kernel
theorem dX3_outdate_2 : decode cX3_outdate 2 = .ok (.putfield 44, 3) := by decide +kernel
theorem dX3_outdate_5 : decode cX3_outdate 5 = .ok (.aload_n 0, 1) := by decide +kernel
theorem dX3_outdate_6 : decode cX3_outdate 6 = .ok (.iconst (-1), 1) := by decide +kernel
theorem dX3_outdate_7 : decode cX3_outdate 7 = .ok (.putfield 47, 3) := by decide +kernel
theorem dX3_outdate_10 : decode cX3_outdate 10 = .ok (.iconst 0, 1) := by decide +kernel
theorem dX3_outdate_11 : decode cX3_outdate 11 = .ok (.istore_n 1, 1) := by decide +kernel
theorem dX3_outdate_12 : decode cX3_outdate 12 = .ok (.iload_n 1, 1) := by decide +kernel
theorem dX3_outdate_13 : decode cX3_outdate 13 = .ok (.bipush 16, 2) := by decide +kernel
theorem dX3_outdate_15 : decode cX3_outdate 15 = .ok (.if_icmp .ge 16, 3) := by decide +kernel
theorem dX3_outdate_18 : decode cX3_outdate 18 = .ok (.aload_n 0, 1) := by decide +kernel
theorem dX3_outdate_19 : decode cX3_outdate 19 = .ok (.getfield 50, 3) := by decide +kernel
theorem dX3_outdate_22 : decode cX3_outdate 22 = .ok (.iload_n 1, 1) := by decide +kernel
theorem dX3_outdate_23 : decode cX3_outdate 23 = .ok (.iconst (-1), 1) := by decide +kernel
theorem dX3_outdate_24 : decode cX3_outdate 24 = .ok (.iastore, 1) := by decide +kernel
theorem dX3_outdate_25 : decode cX3_outdate 25 = .ok (.iinc 1 1, 3) := by decide +kernel
theorem dX3_outdate_28 : decode cX3_outdate 28 = .ok (.goto (-16), 3) := by decide +kernel
theorem dX3_outdate_31 : decode cX3_outdate 31 = .ok (.return_, 1) := by decide +kernel
theorem dX3_isOver_0 : decode cX3_isOver 0 = .ok (.aload_n 0, 1) := by decide +kernel
theorem dX3_isOver_1 : decode cX3_isOver 1 = .ok (.getfield 28, 3) := by decide +kernel
theorem dX3_isOver_4 : decode cX3_isOver 4 = .ok (.bipush 100, 2) := by decide +kernel
theorem dX3_isOver_6 : decode cX3_isOver 6 = .ok (.if_icmp .le 7, 3) := by decide +kernel
theorem dX3_isOver_9 : decode cX3_isOver 9 = .ok (.iconst 1, 1) := by decide +kernel
theorem dX3_isOver_10 : decode cX3_isOver 10 = .ok (.goto 4, 3) := by decide +kernel
theorem dX3_isOver_13 : decode cX3_isOver 13 = .ok (.iconst 0, 1) := by decide +kernel
theorem dX3_isOver_14 : decode cX3_isOver 14 = .ok (.ireturn, 1) := by decide +kernel
theorem dX3_tellSpot_0 : decode cX3_tellSpot 0 = .ok (.aload_n 0, 1) := by decide +kernel
theorem dX3_tellSpot_1 : decode cX3_tellSpot 1 = .ok (.getfield 38, 3) := by decide +kernel
theorem dX3_tellSpot_4 : decode cX3_tellSpot 4 = .ok (.iload_n 1, 1) := by decide +kernel
theorem dX3_tellSpot_5 : decode cX3_tellSpot 5 = .ok (.bipush 6, 2) := by decide +kernel
theorem dX3_tellSpot_7 : decode cX3_tellSpot 7 = .ok (.imul, 1) := by decide +kernel
theorem dX3_tellSpot_8 : decode cX3_tellSpot 8 = .ok (.iload_n 2, 1) := by decide +kernel
theorem dX3_tellSpot_9 : decode cX3_tellSpot 9 = .ok (.iadd, 1) := by decide +kernel
theorem dX3_tellSpot_10 : decode cX3_tellSpot 10 = .ok (.iaload, 1) := by decide +kernel
theorem dX3_tellSpot_11 : decode cX3_tellSpot 11 = .ok (.ireturn, 1) := by decide +kernel
theorem dX3_countSpots_0 : decode cX3_countSpots 0 = .ok (.iload_n 2, 1) := by decide +kernel
theorem dX3_countSpots_1 : decode cX3_countSpots 1 = .ok (.iload_n 3, 1) := by decide +kernel
theorem dX3_countSpots_2 : decode cX3_countSpots 2 = .ok (.if_icmp .ne 5, 3) := by decide +kernel
theorem dX3_countSpots_5 : decode cX3_countSpots 5 = .ok (.iconst 0, 1) := by decide +kernel
theorem dX3_countSpots_6 : decode cX3_countSpots 6 = .ok (.ireturn, 1) := by decide +kernel
theorem dX3_countSpots_7 : decode cX3_countSpots 7 = .ok (.aload_n 0, 1) := by decide +kernel
theorem dX3_countSpots_8 : decode cX3_countSpots 8 = .ok (.getfield 50, 3) := by decide +kernel
theorem dX3_countSpots_11 : decode cX3_countSpots 11 = .ok (.iconst 4, 1) := by decide +kernel
theorem dX3_countSpots_12 : decode cX3_countSpots 12 = .ok (.iload_n 2, 1) := by decide +kernel
theorem dX3_countSpots_13 : decode cX3_countSpots 13 = .ok (.imul, 1) := by decide +kernel
theorem dX3_countSpots_14 : decode cX3_countSpots 14 = .ok (.iload_n 3, 1) := by decide +kernel
theorem dX3_countSpots_15 : decode cX3_countSpots 15 = .ok (.iadd, 1) := by decide +kernel
theorem dX3_countSpots_16 : decode cX3_countSpots 16 = .ok (.iaload, 1) := by decide +kernel
theorem dX3_countSpots_17 : decode cX3_countSpots 17 = .ok (.iconst (-1), 1) := by decide +kernel
theorem dX3_countSpots_18 : decode cX3_countSpots 18 = .ok (.if_icmp .ne 52, 3) := by decide +kernel
theorem dX3_countSpots_21 : decode cX3_countSpots 21 = .ok (.aload_n 0, 1) := by decide +kernel
theorem dX3_countSpots_22 : decode cX3_countSpots 22 = .ok (.aload_n 1, 1) := by decide +kernel
theorem dX3_countSpots_23 : decode cX3_countSpots 23 = .ok (.iload_n 2, 1) := by decide +kernel
theorem dX3_countSpots_24 : decode cX3_countSpots 24 = .ok (.iload_n 3, 1) := by decide +kernel
theorem dX3_countSpots_25 : decode cX3_countSpots 25 = .ok (.invokevirtual 53, 3) := by decide +kernel
theorem dX3_countSpots_28 : decode cX3_countSpots 28 = .ok (.aload_n 0, 1) := by decide +kernel
theorem dX3_countSpots_29 : decode cX3_countSpots 29 = .ok (.invokevirtual 57, 3) := by decide +kernel
theorem dX3_countSpots_32 : decode cX3_countSpots 32 = .ok (.ifCond .eq 8, 3) := by decide +kernel
theorem dX3_countSpots_35 : decode cX3_countSpots 35 = .ok (.bipush 101, 2) := by decide +kernel
theorem dX3_countSpots_37 : decode cX3_countSpots 37 = .ok (.goto 7, 3) := by decide +kernel
theorem dX3_countSpots_40 : decode cX3_countSpots 40 = .ok (.aload_n 0, 1) := by decide +kernel
theorem dX3_countSpots_41 : decode cX3_countSpots 41 = .ok (.getfield 35, 3) := by decide +kernel
theorem dX3_countSpots_44 : decode cX3_countSpots 44 = .ok (.istore 4, 2) := by decide +kernel
theorem dX3_countSpots_46 : decode cX3_countSpots 46 = .ok (.aload_n 0, 1) := by decide +kernel
theorem dX3_countSpots_47 : decode cX3_countSpots 47 = .ok (.getfield 50, 3) := by decide +kernel
theorem dX3_countSpots_50 : decode cX3_countSpots 50 = .ok (.iconst 4, 1) := by decide +kernel
theorem dX3_countSpots_51 : decode cX3_countSpots 51 = .ok (.iload_n 2, 1) := by decide +kernel
theorem dX3_countSpots_52 : decode cX3_countSpots 52 = .ok (.imul, 1) := by decide +kernel
theorem dX3_countSpots_53 : decode cX3_countSpots 53 = .ok (.iload_n 3, 1) := by decide +kernel
theorem dX3_countSpots_54 : decode cX3_countSpots 54 = .ok (.iadd, 1) := by decide +kernel
theorem dX3_countSpots_55 : decode cX3_countSpots 55 = .ok (.iload 4, 2) := by decide +kernel
theorem dX3_countSpots_57 : decode cX3_countSpots 57 = .ok (.iastore, 1) := by decide +kernel
theorem dX3_countSpots_58 : decode cX3_countSpots 58 = .ok (.aload_n 0, 1) := by decide +kernel
theorem dX3_countSpots_59 : decode cX3_countSpots 59 = .ok (.getfield 50, 3) := by decide +kernel
theorem dX3_countSpots_62 : decode cX3_countSpots 62 = .ok (.iconst 4, 1) := by decide +kernel
theorem dX3_countSpots_63 : decode cX3_countSpots 63 = .ok (.iload_n 3, 1) := by decide +kernel
theorem dX3_countSpots_64 : decode cX3_countSpots 64 = .ok (.imul, 1) := by decide +kernel
theorem dX3_countSpots_65 : decode cX3_countSpots 65 = .ok (.iload_n 2, 1) := by decide +kernel
theorem dX3_countSpots_66 : decode cX3_countSpots 66 = .ok (.iadd, 1) := by decide +kernel
theorem dX3_countSpots_67 : decode cX3_countSpots 67 = .ok (.iload 4, 2) := by decide +kernel
theorem dX3_countSpots_69 : decode cX3_countSpots 69 = .ok (.iastore, 1) := by decide +kernel
theorem dX3_countSpots_70 : decode cX3_countSpots 70 = .ok (.aload_n 0, 1) := by decide +kernel
theorem dX3_countSpots_71 : decode cX3_countSpots 71 = .ok (.getfield 50, 3) := by decide +kernel
theorem dX3_countSpots_74 : decode cX3_countSpots 74 = .ok (.iconst 4, 1) := by decide +kernel
theorem dX3_countSpots_75 : decode cX3_countSpots 75 = .ok (.iload_n 2, 1) := by decide +kernel
theorem dX3_countSpots_76 : decode cX3_countSpots 76 = .ok (.imul, 1) := by decide +kernel
theorem dX3_countSpots_77 : decode cX3_countSpots 77 = .ok (.iload_n 3, 1) := by decide +kernel
theorem dX3_countSpots_78 : decode cX3_countSpots 78 = .ok (.iadd, 1) := by decide +kernel
theorem dX3_countSpots_79 : decode cX3_countSpots 79 = .ok (.iaload, 1) := by decide +kernel
theorem dX3_countSpots_80 : decode cX3_countSpots 80 = .ok (.ireturn, 1) := by decide +kernel
theorem dX3_find_0 : decode cX3_find 0 = .ok (.aload_n 0, 1) := by decide +kernel
theorem dX3_find_1 : decode cX3_find 1 = .ok (.getfield 44, 3) := by decide +kernel
theorem dX3_find_4 : decode cX3_find 4 = .ok (.iload_n 2, 1) := by decide +kernel
theorem dX3_find_5 : decode cX3_find 5 = .ok (.if_icmp .ne 12, 3) := by decide +kernel
theorem dX3_find_8 : decode cX3_find 8 = .ok (.aload_n 0, 1) := by decide +kernel
theorem dX3_find_9 : decode cX3_find 9 = .ok (.getfield 47, 3) := by decide +kernel
theorem dX3_find_12 : decode cX3_find 12 = .ok (.iload_n 3, 1) := by decide +kernel
theorem dX3_find_13 : decode cX3_find 13 = .ok (.if_icmp .ne 4, 3) := by decide +kernel
theorem dX3_find_16 : decode cX3_find 16 = .ok (.return_, 1) := by decide +kernel
theorem dX3_find_17 : decode cX3_find 17 = .ok (.aload_n 0, 1) := by decide +kernel
theorem dX3_find_18 : decode cX3_find 18 = .ok (.iload_n 2, 1) := by decide +kernel
theorem dX3_find_19 : decode cX3_find 19 = .ok (.putfield 44, 3) := by decide +kernel
theorem dX3_find_22 : decode cX3_find 22 = .ok (.aload_n 0, 1) := by decide +kernel
theorem dX3_find_23 : decode cX3_find 23 = .ok (.iload_n 3, 1) := by decide +kernel
theorem dX3_find_24 : decode cX3_find 24 = .ok (.putfield 47, 3) := by decide +kernel
theorem dX3_find_27 : decode cX3_find 27 = .ok (.aload_n 0, 1) := by decide +kernel
theorem dX3_find_28 : decode cX3_find 28 = .ok (.iconst 0, 1) := by decide +kernel
theorem dX3_find_29 : decode cX3_find 29 = .ok (.putfield 28, 3) := by decide +kernel
theorem dX3_find_32 : decode cX3_find 32 = .ok (.aload_n 0, 1) := by decide +kernel
theorem dX3_find_33 : decode cX3_find 33 = .ok (.iconst 0, 1) := by decide +kernel
theorem dX3_find_34 : decode cX3_find 34 = .ok (.putfield 32, 3) := by decide +kernel
theorem dX3_find_37 : decode cX3_find 37 = .ok (.aload_n 0, 1) := by decide +kernel
theorem dX3_find_38 : decode cX3_find 38 = .ok (.iconst 0, 1) := by decide +kernel
theorem dX3_find_39 : decode cX3_find 39 = .ok (.putfield 35, 3) := by decide +kernel
theorem dX3_find_42 : decode cX3_find 42 = .ok (.aload_n 0, 1) := by decide +kernel
theorem dX3_find_43 : decode cX3_find 43 = .ok (.aload_n 1, 1) := by decide +kernel
theorem dX3_find_44 : decode cX3_find 44 = .ok (.iload_n 2, 1) := by decide +kernel
theorem dX3_find_45 : decode cX3_find 45 = .ok (.aaload, 1) := by decide +kernel
theorem dX3_find_46 : decode cX3_find 46 = .ok (.iconst 1, 1) := by decide +kernel
theorem dX3_find_47 : decode cX3_find 47 = .ok (.aload_n 1, 1) := by decide +kernel
theorem dX3_find_48 : decode cX3_find 48 = .ok (.iload_n 3, 1) := by decide +kernel
theorem dX3_find_49 : decode cX3_find 49 = .ok (.aaload, 1) := by decide +kernel
theorem dX3_find_50 : decode cX3_find 50 = .ok (.iconst 1, 1) := by decide +kernel
theorem dX3_find_51 : decode cX3_find 51 = .ok (.iconst 0, 1) := by decide +kernel
theorem dX3_find_52 : decode cX3_find 52 = .ok (.invokestatic 61, 3) := by decide +kernel
theorem dX3_find_55 : decode cX3_find 55 = .ok (.aload_n 0, 1) := by decide +kernel
theorem dX3_find_56 : decode cX3_find 56 = .ok (.invokevirtual 57, 3) := by decide +kernel
theorem dX3_find_59 : decode cX3_find 59 = .ok (.ifCond .ne 7, 3) := by decide +kernel
theorem dX3_find_62 : decode cX3_find 62 = .ok (.aload_n 0, 1) := by decide +kernel
theorem dX3_find_63 : decode cX3_find 63 = .ok (.invokevirtual 65, 3) := by decide +kernel
theorem dX3_find_66 : decode cX3_find 66 = .ok (.return_, 1) := by decide +kernel
theorem dX3_search_0 : decode cX3_search 0 = .ok (.aload_n 0, 1) := by decide +kernel
theorem dX3_search_1 : decode cX3_search 1 = .ok (.invokevirtual 57, 3) := by decide +kernel
theorem dX3_search_4 : decode cX3_search 4 = .ok (.ifCond .ne 14, 3) := by decide +kernel
theorem dX3_search_7 : decode cX3_search 7 = .ok (.aload_n 1, 1) := by decide +kernel
theorem dX3_search_8 : decode cX3_search 8 = .ok (.iload_n 2, 1) := by decide +kernel
theorem dX3_search_9 : decode cX3_search 9 = .ok (.aload_n 3, 1) := by decide +kernel
theorem dX3_search_10 : decode cX3_search 10 = .ok (.iload 4, 2) := by decide +kernel
theorem dX3_search_12 : decode cX3_search 12 = .ok (.invokestatic 68, 3) := by decide +kernel
theorem dX3_search_15 : decode cX3_search 15 = .ok (.ifCond .eq 4, 3) := by decide +kernel
theorem dX3_search_18 : decode cX3_search 18 = .ok (.return_, 1) := by decide +kernel
theorem dX3_search_19 : decode cX3_search 19 = .ok (.aload_n 1, 1) := by decide +kernel
theorem dX3_search_20 : decode cX3_search 20 = .ok (.iload_n 2, 1) := by decide +kernel
theorem dX3_search_21 : decode cX3_search 21 = .ok (.aload_n 3, 1) := by decide +kernel
theorem dX3_search_22 : decode cX3_search 22 = .ok (.iload 4, 2) := by decide +kernel
theorem dX3_search_24 : decode cX3_search 24 = .ok (.invokestatic 74, 3) := by decide +kernel
theorem dX3_search_27 : decode cX3_search 27 = .ok (.istore 6, 2) := by decide +kernel
theorem dX3_search_29 : decode cX3_search 29 = .ok (.iload 6, 2) := by decide +kernel
theorem dX3_search_31 : decode cX3_search 31 = .ok (.ifCond .eq 18, 3) := by decide +kernel
theorem dX3_search_34 : decode cX3_search 34 = .ok (.aload_n 1, 1) := by decide +kernel
theorem dX3_search_35 : decode cX3_search 35 = .ok (.iload_n 2, 1) := by decide +kernel
theorem dX3_search_36 : decode cX3_search 36 = .ok (.aload_n 3, 1) := by decide +kernel
theorem dX3_search_37 : decode cX3_search 37 = .ok (.iload 4, 2) := by decide +kernel
theorem dX3_search_39 : decode cX3_search 39 = .ok (.invokestatic 77, 3) := by decide +kernel
theorem dX3_search_42 : decode cX3_search 42 = .ok (.ifCond .eq 7, 3) := by decide +kernel
theorem dX3_search_45 : decode cX3_search 45 = .ok (.iconst 1, 1) := by decide +kernel
theorem dX3_search_46 : decode cX3_search 46 = .ok (.goto 4, 3) := by decide +kernel
theorem dX3_search_49 : decode cX3_search 49 = .ok (.iconst 0, 1) := by decide +kernel
theorem dX3_search_50 : decode cX3_search 50 = .ok (.istore 7, 2) := by decide +kernel
theorem dX3_search_52 : decode cX3_search 52 = .ok (.iload 7, 2) := by decide +kernel
theorem dX3_search_54 : decode cX3_search 54 = .ok (.ifCond .ne 9, 3) := by decide +kernel
theorem dX3_search_57 : decode cX3_search 57 = .ok (.iload 5, 2) := by decide +kernel
theorem dX3_search_59 : decode cX3_search 59 = .ok (.iconst 5, 1) := by decide +kernel
theorem dX3_search_60 : decode cX3_search 60 = .ok (.if_icmp .lt 15, 3) := by decide +kernel
theorem dX3_search_63 : decode cX3_search 63 = .ok (.aload_n 0, 1) := by decide +kernel
theorem dX3_search_64 : decode cX3_search 64 = .ok (.iload_n 2, 1) := by decide +kernel
theorem dX3_search_65 : decode cX3_search 65 = .ok (.iload 4, 2) := by decide +kernel
theorem dX3_search_67 : decode cX3_search 67 = .ok (.iload 6, 2) := by decide +kernel
theorem dX3_search_69 : decode cX3_search 69 = .ok (.iload 7, 2) := by decide +kernel
theorem dX3_search_71 : decode cX3_search 71 = .ok (.invokevirtual 81, 3) := by decide +kernel
theorem dX3_search_74 : decode cX3_search 74 = .ok (.return_, 1) := by decide +kernel
theorem dX3_search_75 : decode cX3_search 75 = .ok (.iconst 0, 1) := by decide +kernel
theorem dX3_search_76 : decode cX3_search 76 = .ok (.istore 8, 2) := by decide +kernel
theorem dX3_search_78 : decode cX3_search 78 = .ok (.iload 8, 2) := by decide +kernel
theorem dX3_search_80 : decode cX3_search 80 = .ok (.iconst 2, 1) := by decide +kernel
theorem dX3_search_81 : decode cX3_search 81 = .ok (.if_icmp .ge 47, 3) := by decide +kernel
theorem dX3_search_84 : decode cX3_search 84 = .ok (.iconst 0, 1) := by decide +kernel
theorem dX3_search_85 : decode cX3_search 85 = .ok (.istore 9, 2) := by decide +kernel
theorem dX3_search_87 : decode cX3_search 87 = .ok (.iload 9, 2) := by decide +kernel
theorem dX3_search_89 : decode cX3_search 89 = .ok (.iconst 2, 1) := by decide +kernel
theorem dX3_search_90 : decode cX3_search 90 = .ok (.if_icmp .ge 32, 3) := by decide +kernel
theorem dX3_search_93 : decode cX3_search 93 = .ok (.aload_n 0, 1) := by decide +kernel
theorem dX3_search_94 : decode cX3_search 94 = .ok (.aload_n 1, 1) := by decide +kernel
theorem dX3_search_95 : decode cX3_search 95 = .ok (.iconst 2, 1) := by decide +kernel
theorem dX3_search_96 : decode cX3_search 96 = .ok (.iload_n 2, 1) := by decide +kernel
theorem dX3_search_97 : decode cX3_search 97 = .ok (.imul, 1) := by decide +kernel
theorem dX3_search_98 : decode cX3_search 98 = .ok (.iload 8, 2) := by decide +kernel
theorem dX3_search_100 : decode cX3_search 100 = .ok (.iadd, 1) := by decide +kernel
theorem dX3_search_101 : decode cX3_search 101 = .ok (.aload_n 3, 1) := by decide +kernel
theorem dX3_search_102 : decode cX3_search 102 = .ok (.iconst 2, 1) := by decide +kernel
theorem dX3_search_103 : decode cX3_search 103 = .ok (.iload 4, 2) := by decide +kernel
theorem dX3_search_105 : decode cX3_search 105 = .ok (.imul, 1) := by decide +kernel
theorem dX3_search_106 : decode cX3_search 106 = .ok (.iload 9, 2) := by decide +kernel
theorem dX3_search_108 : decode cX3_search 108 = .ok (.iadd, 1) := by decide +kernel
theorem dX3_search_109 : decode cX3_search 109 = .ok (.iload 5, 2) := by decide +kernel
theorem dX3_search_111 : decode cX3_search 111 = .ok (.iconst 1, 1) := by decide +kernel
theorem dX3_search_112 : decode cX3_search 112 = .ok (.iadd, 1) := by decide +kernel
theorem dX3_search_113 : decode cX3_search 113 = .ok (.invokestatic 61, 3) := by decide +kernel
theorem dX3_search_116 : decode cX3_search 116 = .ok (.iinc 9 1, 3) := by decide +kernel
theorem dX3_search_119 : decode cX3_search 119 = .ok (.goto (-32), 3) := by decide +kernel
theorem dX3_search_122 : decode cX3_search 122 = .ok (.iinc 8 1, 3) := by decide +kernel
theorem dX3_search_125 : decode cX3_search 125 = .ok (.goto (-47), 3) := by decide +kernel
theorem dX3_search_128 : decode cX3_search 128 = .ok (.return_, 1) := by decide +kernel
theorem dX3_adds_0 : decode cX3_adds 0 = .ok (.aload_n 0, 1) := by decide +kernel
theorem dX3_adds_1 : decode cX3_adds 1 = .ok (.invokevirtual 57, 3) := by decide +kernel
theorem dX3_adds_4 : decode cX3_adds 4 = .ok (.ifCond .eq 4, 3) := by decide +kernel
theorem dX3_adds_7 : decode cX3_adds 7 = .ok (.return_, 1) := by decide +kernel
theorem dX3_adds_8 : decode cX3_adds 8 = .ok (.aload_n 0, 1) := by decide +kernel
theorem dX3_adds_9 : decode cX3_adds 9 = .ok (.getfield 9, 3) := by decide +kernel
theorem dX3_adds_12 : decode cX3_adds 12 = .ok (.aload_n 0, 1) := by decide +kernel
theorem dX3_adds_13 : decode cX3_adds 13 = .ok (.getfield 28, 3) := by decide +kernel
theorem dX3_adds_16 : decode cX3_adds 16 = .ok (.iload_n 1, 1) := by decide +kernel
theorem dX3_adds_17 : decode cX3_adds 17 = .ok (.iastore, 1) := by decide +kernel
theorem dX3_adds_18 : decode cX3_adds 18 = .ok (.aload_n 0, 1) := by decide +kernel
theorem dX3_adds_19 : decode cX3_adds 19 = .ok (.getfield 15, 3) := by decide +kernel
theorem dX3_adds_22 : decode cX3_adds 22 = .ok (.aload_n 0, 1) := by decide +kernel
theorem dX3_adds_23 : decode cX3_adds 23 = .ok (.getfield 28, 3) := by decide +kernel
theorem dX3_adds_26 : decode cX3_adds 26 = .ok (.iload_n 2, 1) := by decide +kernel
theorem dX3_adds_27 : decode cX3_adds 27 = .ok (.iastore, 1) := by decide +kernel
theorem dX3_adds_28 : decode cX3_adds 28 = .ok (.aload_n 0, 1) := by decide +kernel
theorem dX3_adds_29 : decode cX3_adds 29 = .ok (.getfield 22, 3) := by decide +kernel
theorem dX3_adds_32 : decode cX3_adds 32 = .ok (.aload_n 0, 1) := by decide +kernel
theorem dX3_adds_33 : decode cX3_adds 33 = .ok (.getfield 28, 3) := by decide +kernel
theorem dX3_adds_36 : decode cX3_adds 36 = .ok (.iload_n 3, 1) := by decide +kernel
theorem dX3_adds_37 : decode cX3_adds 37 = .ok (.iastore, 1) := by decide +kernel
theorem dX3_adds_38 : decode cX3_adds 38 = .ok (.aload_n 0, 1) := by decide +kernel
theorem dX3_adds_39 : decode cX3_adds 39 = .ok (.getfield 18, 3) := by decide +kernel
theorem dX3_adds_42 : decode cX3_adds 42 = .ok (.aload_n 0, 1) := by decide +kernel
theorem dX3_adds_43 : decode cX3_adds 43 = .ok (.getfield 28, 3) := by decide +kernel
theorem dX3_adds_46 : decode cX3_adds 46 = .ok (.iload 4, 2) := by decide +kernel
theorem dX3_adds_48 : decode cX3_adds 48 = .ok (.bastore, 1) := by decide +kernel
theorem dX3_adds_49 : decode cX3_adds 49 = .ok (.aload_n 0, 1) := by decide +kernel
theorem dX3_adds_50 : decode cX3_adds 50 = .ok (.getfield 25, 3) := by decide +kernel
theorem dX3_adds_53 : decode cX3_adds 53 = .ok (.aload_n 0, 1) := by decide +kernel
theorem dX3_adds_54 : decode cX3_adds 54 = .ok (.getfield 28, 3) := by decide +kernel
theorem dX3_adds_57 : decode cX3_adds 57 = .ok (.iconst (-1), 1) := by decide +kernel
theorem dX3_adds_58 : decode cX3_adds 58 = .ok (.iastore, 1) := by decide +kernel
theorem dX3_adds_59 : decode cX3_adds 59 = .ok (.aload_n 0, 1) := by decide +kernel
theorem dX3_adds_60 : decode cX3_adds 60 = .ok (.dup, 1) := by decide +kernel
theorem dX3_adds_61 : decode cX3_adds 61 = .ok (.getfield 28, 3) := by decide +kernel
theorem dX3_adds_64 : decode cX3_adds 64 = .ok (.iconst 1, 1) := by decide +kernel
theorem dX3_adds_65 : decode cX3_adds 65 = .ok (.iadd, 1) := by decide +kernel
theorem dX3_adds_66 : decode cX3_adds 66 = .ok (.putfield 28, 3) := by decide +kernel
theorem dX3_adds_69 : decode cX3_adds 69 = .ok (.iload 4, 2) := by decide +kernel
theorem dX3_adds_71 : decode cX3_adds 71 = .ok (.ifCond .eq 13, 3) := by decide +kernel
theorem dX3_adds_74 : decode cX3_adds 74 = .ok (.aload_n 0, 1) := by decide +kernel
theorem dX3_adds_75 : decode cX3_adds 75 = .ok (.dup, 1) := by decide +kernel
theorem dX3_adds_76 : decode cX3_adds 76 = .ok (.getfield 32, 3) := by decide +kernel
theorem dX3_adds_79 : decode cX3_adds 79 = .ok (.iconst 1, 1) := by decide +kernel
theorem dX3_adds_80 : decode cX3_adds 80 = .ok (.iadd, 1) := by decide +kernel
theorem dX3_adds_81 : decode cX3_adds 81 = .ok (.putfield 32, 3) := by decide +kernel
theorem dX3_adds_84 : decode cX3_adds 84 = .ok (.return_, 1) := by decide +kernel
theorem dX3_gatherSpots_0 : decode cX3_gatherSpots 0 = .ok (.iconst 0, 1) := by decide +kernel
theorem dX3_gatherSpots_1 : decode cX3_gatherSpots 1 = .ok (.istore_n 1, 1) := by decide +kernel
theorem dX3_gatherSpots_2 : decode cX3_gatherSpots 2 = .ok (.iload_n 1, 1) := by decide +kernel
theorem dX3_gatherSpots_3 : decode cX3_gatherSpots 3 = .ok (.aload_n 0, 1) := by decide +kernel
theorem dX3_gatherSpots_4 : decode cX3_gatherSpots 4 = .ok (.getfield 28, 3) := by decide +kernel
theorem dX3_gatherSpots_7 : decode cX3_gatherSpots 7 = .ok (.if_icmp .ge 38, 3) := by decide +kernel
theorem dX3_gatherSpots_10 : decode cX3_gatherSpots 10 = .ok (.aload_n 0, 1) := by decide +kernel
theorem dX3_gatherSpots_11 : decode cX3_gatherSpots 11 = .ok (.getfield 25, 3) := by decide +kernel
theorem dX3_gatherSpots_14 : decode cX3_gatherSpots 14 = .ok (.iload_n 1, 1) := by decide +kernel
theorem dX3_gatherSpots_15 : decode cX3_gatherSpots 15 = .ok (.iaload, 1) := by decide +kernel
theorem dX3_gatherSpots_16 : decode cX3_gatherSpots 16 = .ok (.iconst (-1), 1) := by decide +kernel
theorem dX3_gatherSpots_17 : decode cX3_gatherSpots 17 = .ok (.if_icmp .ne 22, 3) := by decide +kernel
theorem dX3_gatherSpots_20 : decode cX3_gatherSpots 20 = .ok (.aload_n 0, 1) := by decide +kernel
theorem dX3_gatherSpots_21 : decode cX3_gatherSpots 21 = .ok (.aload_n 0, 1) := by decide +kernel
theorem dX3_gatherSpots_22 : decode cX3_gatherSpots 22 = .ok (.iload_n 1, 1) := by decide +kernel
theorem dX3_gatherSpots_23 : decode cX3_gatherSpots 23 = .ok (.invokevirtual 85, 3) := by decide +kernel
theorem dX3_gatherSpots_26 : decode cX3_gatherSpots 26 = .ok (.invokevirtual 89, 3) := by decide +kernel
theorem dX3_gatherSpots_29 : decode cX3_gatherSpots 29 = .ok (.aload_n 0, 1) := by decide +kernel
theorem dX3_gatherSpots_30 : decode cX3_gatherSpots 30 = .ok (.dup, 1) := by decide +kernel
theorem dX3_gatherSpots_31 : decode cX3_gatherSpots 31 = .ok (.getfield 35, 3) := by decide +kernel
theorem dX3_gatherSpots_34 : decode cX3_gatherSpots 34 = .ok (.iconst 1, 1) := by decide +kernel
theorem dX3_gatherSpots_35 : decode cX3_gatherSpots 35 = .ok (.iadd, 1) := by decide +kernel
theorem dX3_gatherSpots_36 : decode cX3_gatherSpots 36 = .ok (.putfield 35, 3) := by decide +kernel
theorem dX3_gatherSpots_39 : decode cX3_gatherSpots 39 = .ok (.iinc 1 1, 3) := by decide +kernel
theorem dX3_gatherSpots_42 : decode cX3_gatherSpots 42 = .ok (.goto (-40), 3) := by decide +kernel
theorem dX3_gatherSpots_45 : decode cX3_gatherSpots 45 = .ok (.return_, 1) := by decide +kernel
theorem dX3_gather_0 : decode cX3_gather 0 = .ok (.aload_n 0, 1) := by decide +kernel
theorem dX3_gather_1 : decode cX3_gather 1 = .ok (.getfield 25, 3) := by decide +kernel
theorem dX3_gather_4 : decode cX3_gather 4 = .ok (.iload_n 1, 1) := by decide +kernel
theorem dX3_gather_5 : decode cX3_gather 5 = .ok (.aload_n 0, 1) := by decide +kernel
theorem dX3_gather_6 : decode cX3_gather 6 = .ok (.getfield 35, 3) := by decide +kernel
theorem dX3_gather_9 : decode cX3_gather 9 = .ok (.iastore, 1) := by decide +kernel
theorem dX3_gather_10 : decode cX3_gather 10 = .ok (.aload_n 0, 1) := by decide +kernel
theorem dX3_gather_11 : decode cX3_gather 11 = .ok (.getfield 41, 3) := by decide +kernel
theorem dX3_gather_14 : decode cX3_gather 14 = .ok (.iconst 0, 1) := by decide +kernel
theorem dX3_gather_15 : decode cX3_gather 15 = .ok (.iload_n 1, 1) := by decide +kernel
theorem dX3_gather_16 : decode cX3_gather 16 = .ok (.iastore, 1) := by decide +kernel
theorem dX3_gather_17 : decode cX3_gather 17 = .ok (.iconst 1, 1) := by decide +kernel
theorem dX3_gather_18 : decode cX3_gather 18 = .ok (.istore_n 2, 1) := by decide +kernel
theorem dX3_gather_19 : decode cX3_gather 19 = .ok (.iconst 0, 1) := by decide +kernel
theorem dX3_gather_20 : decode cX3_gather 20 = .ok (.istore_n 3, 1) := by decide +kernel
theorem dX3_gather_21 : decode cX3_gather 21 = .ok (.iload_n 3, 1) := by decide +kernel
theorem dX3_gather_22 : decode cX3_gather 22 = .ok (.aload_n 0, 1) := by decide +kernel
theorem dX3_gather_23 : decode cX3_gather 23 = .ok (.getfield 28, 3) := by decide +kernel
theorem dX3_gather_26 : decode cX3_gather 26 = .ok (.if_icmp .ge 91, 3) := by decide +kernel
theorem dX3_gather_29 : decode cX3_gather 29 = .ok (.iload_n 3, 1) := by decide +kernel
theorem dX3_gather_30 : decode cX3_gather 30 = .ok (.iload_n 2, 1) := by decide +kernel
theorem dX3_gather_31 : decode cX3_gather 31 = .ok (.if_icmp .ge 86, 3) := by decide +kernel
theorem dX3_gather_34 : decode cX3_gather 34 = .ok (.aload_n 0, 1) := by decide +kernel
theorem dX3_gather_35 : decode cX3_gather 35 = .ok (.getfield 18, 3) := by decide +kernel
theorem dX3_gather_38 : decode cX3_gather 38 = .ok (.iload_n 1, 1) := by decide +kernel
theorem dX3_gather_39 : decode cX3_gather 39 = .ok (.baload, 1) := by decide +kernel
theorem dX3_gather_40 : decode cX3_gather 40 = .ok (.ifCond .ne 77, 3) := by decide +kernel
theorem dX3_gather_43 : decode cX3_gather 43 = .ok (.iload_n 1, 1) := by decide +kernel
theorem dX3_gather_44 : decode cX3_gather 44 = .ok (.iconst 1, 1) := by decide +kernel
theorem dX3_gather_45 : decode cX3_gather 45 = .ok (.iadd, 1) := by decide +kernel
theorem dX3_gather_46 : decode cX3_gather 46 = .ok (.istore 4, 2) := by decide +kernel
theorem dX3_gather_48 : decode cX3_gather 48 = .ok (.iload 4, 2) := by decide +kernel
theorem dX3_gather_50 : decode cX3_gather 50 = .ok (.aload_n 0, 1) := by decide +kernel
theorem dX3_gather_51 : decode cX3_gather 51 = .ok (.getfield 28, 3) := by decide +kernel
theorem dX3_gather_54 : decode cX3_gather 54 = .ok (.if_icmp .ge 57, 3) := by decide +kernel
theorem dX3_gather_57 : decode cX3_gather 57 = .ok (.aload_n 0, 1) := by decide +kernel
theorem dX3_gather_58 : decode cX3_gather 58 = .ok (.getfield 25, 3) := by decide +kernel
theorem dX3_gather_61 : decode cX3_gather 61 = .ok (.iload 4, 2) := by decide +kernel
theorem dX3_gather_63 : decode cX3_gather 63 = .ok (.iaload, 1) := by decide +kernel
theorem dX3_gather_64 : decode cX3_gather 64 = .ok (.iconst (-1), 1) := by decide +kernel
theorem dX3_gather_65 : decode cX3_gather 65 = .ok (.if_icmp .ne 40, 3) := by decide +kernel
theorem dX3_gather_68 : decode cX3_gather 68 = .ok (.aload_n 0, 1) := by decide +kernel
theorem dX3_gather_69 : decode cX3_gather 69 = .ok (.aload_n 0, 1) := by decide +kernel
theorem dX3_gather_70 : decode cX3_gather 70 = .ok (.getfield 41, 3) := by decide +kernel
theorem dX3_gather_73 : decode cX3_gather 73 = .ok (.iload_n 3, 1) := by decide +kernel
theorem dX3_gather_74 : decode cX3_gather 74 = .ok (.iaload, 1) := by decide +kernel
theorem dX3_gather_75 : decode cX3_gather 75 = .ok (.iload 4, 2) := by decide +kernel
theorem dX3_gather_77 : decode cX3_gather 77 = .ok (.invokevirtual 93, 3) := by decide +kernel
theorem dX3_gather_80 : decode cX3_gather 80 = .ok (.ifCond .eq 25, 3) := by decide +kernel
theorem dX3_gather_83 : decode cX3_gather 83 = .ok (.aload_n 0, 1) := by decide +kernel
theorem dX3_gather_84 : decode cX3_gather 84 = .ok (.getfield 25, 3) := by decide +kernel
theorem dX3_gather_87 : decode cX3_gather 87 = .ok (.iload 4, 2) := by decide +kernel
theorem dX3_gather_89 : decode cX3_gather 89 = .ok (.aload_n 0, 1) := by decide +kernel
theorem dX3_gather_90 : decode cX3_gather 90 = .ok (.getfield 35, 3) := by decide +kernel
theorem dX3_gather_93 : decode cX3_gather 93 = .ok (.iastore, 1) := by decide +kernel
theorem dX3_gather_94 : decode cX3_gather 94 = .ok (.aload_n 0, 1) := by decide +kernel
theorem dX3_gather_95 : decode cX3_gather 95 = .ok (.getfield 41, 3) := by decide +kernel
theorem dX3_gather_98 : decode cX3_gather 98 = .ok (.iload_n 2, 1) := by decide +kernel
theorem dX3_gather_99 : decode cX3_gather 99 = .ok (.iload 4, 2) := by decide +kernel
theorem dX3_gather_101 : decode cX3_gather 101 = .ok (.iastore, 1) := by decide +kernel
theorem dX3_gather_102 : decode cX3_gather 102 = .ok (.iinc 2 1, 3) := by decide +kernel
theorem dX3_gather_105 : decode cX3_gather 105 = .ok (.iinc 4 1, 3) := by decide +kernel
theorem dX3_gather_108 : decode cX3_gather 108 = .ok (.goto (-60), 3) := by decide +kernel
theorem dX3_gather_111 : decode cX3_gather 111 = .ok (.iinc 3 1, 3) := by decide +kernel
theorem dX3_gather_114 : decode cX3_gather 114 = .ok (.goto (-93), 3) := by decide +kernel
theorem dX3_gather_117 : decode cX3_gather 117 = .ok (.iload_n 2, 1) := by decide +kernel
theorem dX3_gather_118 : decode cX3_gather 118 = .ok (.ireturn, 1) := by decide +kernel
theorem dX3_hangTogether_0 : decode cX3_hangTogether 0 = .ok (.aload_n 0, 1) := by decide +kernel
theorem dX3_hangTogether_1 : decode cX3_hangTogether 1 = .ok (.getfield 18, 3) := by decide +kernel
theorem dX3_hangTogether_4 : decode cX3_hangTogether 4 = .ok (.iload_n 1, 1) := by decide +kernel
theorem dX3_hangTogether_5 : decode cX3_hangTogether 5 = .ok (.baload, 1) := by decide +kernel
theorem dX3_hangTogether_6 : decode cX3_hangTogether 6 = .ok (.ifCond .ne 56, 3) := by decide +kernel
theorem dX3_hangTogether_9 : decode cX3_hangTogether 9 = .ok (.aload_n 0, 1) := by decide +kernel
theorem dX3_hangTogether_10 : decode cX3_hangTogether 10 = .ok (.getfield 18, 3) := by decide +kernel
theorem dX3_hangTogether_13 : decode cX3_hangTogether 13 = .ok (.iload_n 2, 1) := by decide +kernel
theorem dX3_hangTogether_14 : decode cX3_hangTogether 14 = .ok (.baload, 1) := by decide +kernel
theorem dX3_hangTogether_15 : decode cX3_hangTogether 15 = .ok (.ifCond .ne 47, 3) := by decide +kernel
theorem dX3_hangTogether_18 : decode cX3_hangTogether 18 = .ok (.aload_n 0, 1) := by decide +kernel
theorem dX3_hangTogether_19 : decode cX3_hangTogether 19 = .ok (.getfield 9, 3) := by decide +kernel
theorem dX3_hangTogether_22 : decode cX3_hangTogether 22 = .ok (.iload_n 1, 1) := by decide +kernel
theorem dX3_hangTogether_23 : decode cX3_hangTogether 23 = .ok (.iaload, 1) := by decide +kernel
theorem dX3_hangTogether_24 : decode cX3_hangTogether 24 = .ok (.aload_n 0, 1) := by decide +kernel
theorem dX3_hangTogether_25 : decode cX3_hangTogether 25 = .ok (.getfield 9, 3) := by decide +kernel
theorem dX3_hangTogether_28 : decode cX3_hangTogether 28 = .ok (.iload_n 2, 1) := by decide +kernel
theorem dX3_hangTogether_29 : decode cX3_hangTogether 29 = .ok (.iaload, 1) := by decide +kernel
theorem dX3_hangTogether_30 : decode cX3_hangTogether 30 = .ok (.isub, 1) := by decide +kernel
theorem dX3_hangTogether_31 : decode cX3_hangTogether 31 = .ok (.invokestatic 97, 3) := by decide +kernel
theorem dX3_hangTogether_34 : decode cX3_hangTogether 34 = .ok (.iconst 1, 1) := by decide +kernel
theorem dX3_hangTogether_35 : decode cX3_hangTogether 35 = .ok (.if_icmp .gt 27, 3) := by decide +kernel
theorem dX3_hangTogether_38 : decode cX3_hangTogether 38 = .ok (.aload_n 0, 1) := by decide +kernel
theorem dX3_hangTogether_39 : decode cX3_hangTogether 39 = .ok (.getfield 15, 3) := by decide +kernel
theorem dX3_hangTogether_42 : decode cX3_hangTogether 42 = .ok (.iload_n 1, 1) := by decide +kernel
theorem dX3_hangTogether_43 : decode cX3_hangTogether 43 = .ok (.iaload, 1) := by decide +kernel
theorem dX3_hangTogether_44 : decode cX3_hangTogether 44 = .ok (.aload_n 0, 1) := by decide +kernel
theorem dX3_hangTogether_45 : decode cX3_hangTogether 45 = .ok (.getfield 15, 3) := by decide +kernel
theorem dX3_hangTogether_48 : decode cX3_hangTogether 48 = .ok (.iload_n 2, 1) := by decide +kernel
theorem dX3_hangTogether_49 : decode cX3_hangTogether 49 = .ok (.iaload, 1) := by decide +kernel
theorem dX3_hangTogether_50 : decode cX3_hangTogether 50 = .ok (.isub, 1) := by decide +kernel
theorem dX3_hangTogether_51 : decode cX3_hangTogether 51 = .ok (.invokestatic 97, 3) := by decide +kernel
theorem dX3_hangTogether_54 : decode cX3_hangTogether 54 = .ok (.iconst 1, 1) := by decide +kernel
theorem dX3_hangTogether_55 : decode cX3_hangTogether 55 = .ok (.if_icmp .gt 7, 3) := by decide +kernel
theorem dX3_hangTogether_58 : decode cX3_hangTogether 58 = .ok (.iconst 1, 1) := by decide +kernel
theorem dX3_hangTogether_59 : decode cX3_hangTogether 59 = .ok (.goto 4, 3) := by decide +kernel
theorem dX3_hangTogether_62 : decode cX3_hangTogether 62 = .ok (.iconst 0, 1) := by decide +kernel
theorem dX3_hangTogether_63 : decode cX3_hangTogether 63 = .ok (.ireturn, 1) := by decide +kernel
theorem dX3_tell_0 : decode cX3_tell 0 = .ok (.aload_n 0, 1) := by decide +kernel
theorem dX3_tell_1 : decode cX3_tell 1 = .ok (.getfield 35, 3) := by decide +kernel
theorem dX3_tell_4 : decode cX3_tell 4 = .ok (.bipush 6, 2) := by decide +kernel
theorem dX3_tell_6 : decode cX3_tell 6 = .ok (.imul, 1) := by decide +kernel
theorem dX3_tell_7 : decode cX3_tell 7 = .ok (.istore_n 2, 1) := by decide +kernel
theorem dX3_tell_8 : decode cX3_tell 8 = .ok (.aload_n 0, 1) := by decide +kernel
theorem dX3_tell_9 : decode cX3_tell 9 = .ok (.getfield 38, 3) := by decide +kernel
theorem dX3_tell_12 : decode cX3_tell 12 = .ok (.iload_n 2, 1) := by decide +kernel
theorem dX3_tell_13 : decode cX3_tell 13 = .ok (.aload_n 0, 1) := by decide +kernel
theorem dX3_tell_14 : decode cX3_tell 14 = .ok (.iload_n 1, 1) := by decide +kernel
theorem dX3_tell_15 : decode cX3_tell 15 = .ok (.invokevirtual 102, 3) := by decide +kernel
theorem dX3_tell_18 : decode cX3_tell 18 = .ok (.iastore, 1) := by decide +kernel
theorem dX3_tell_19 : decode cX3_tell 19 = .ok (.aload_n 0, 1) := by decide +kernel
theorem dX3_tell_20 : decode cX3_tell 20 = .ok (.getfield 38, 3) := by decide +kernel
theorem dX3_tell_23 : decode cX3_tell 23 = .ok (.iload_n 2, 1) := by decide +kernel
theorem dX3_tell_24 : decode cX3_tell 24 = .ok (.iconst 1, 1) := by decide +kernel
theorem dX3_tell_25 : decode cX3_tell 25 = .ok (.iadd, 1) := by decide +kernel
theorem dX3_tell_26 : decode cX3_tell 26 = .ok (.iload_n 1, 1) := by decide +kernel
theorem dX3_tell_27 : decode cX3_tell 27 = .ok (.iastore, 1) := by decide +kernel
theorem dX3_tell_28 : decode cX3_tell 28 = .ok (.aload_n 0, 1) := by decide +kernel
theorem dX3_tell_29 : decode cX3_tell 29 = .ok (.iload_n 2, 1) := by decide +kernel
theorem dX3_tell_30 : decode cX3_tell 30 = .ok (.iconst 2, 1) := by decide +kernel
theorem dX3_tell_31 : decode cX3_tell 31 = .ok (.iadd, 1) := by decide +kernel
theorem dX3_tell_32 : decode cX3_tell 32 = .ok (.aload_n 0, 1) := by decide +kernel
theorem dX3_tell_33 : decode cX3_tell 33 = .ok (.getfield 9, 3) := by decide +kernel
theorem dX3_tell_36 : decode cX3_tell 36 = .ok (.iload_n 1, 1) := by decide +kernel
theorem dX3_tell_37 : decode cX3_tell 37 = .ok (.invokevirtual 105, 3) := by decide +kernel
theorem dX3_tell_40 : decode cX3_tell 40 = .ok (.aload_n 0, 1) := by decide +kernel
theorem dX3_tell_41 : decode cX3_tell 41 = .ok (.iload_n 2, 1) := by decide +kernel
theorem dX3_tell_42 : decode cX3_tell 42 = .ok (.iconst 4, 1) := by decide +kernel
theorem dX3_tell_43 : decode cX3_tell 43 = .ok (.iadd, 1) := by decide +kernel
theorem dX3_tell_44 : decode cX3_tell 44 = .ok (.aload_n 0, 1) := by decide +kernel
theorem dX3_tell_45 : decode cX3_tell 45 = .ok (.getfield 15, 3) := by decide +kernel
theorem dX3_tell_48 : decode cX3_tell 48 = .ok (.iload_n 1, 1) := by decide +kernel
theorem dX3_tell_49 : decode cX3_tell 49 = .ok (.invokevirtual 105, 3) := by decide +kernel
theorem dX3_tell_52 : decode cX3_tell 52 = .ok (.return_, 1) := by decide +kernel
theorem dX3_kind_0 : decode cX3_kind 0 = .ok (.aload_n 0, 1) := by decide +kernel
theorem dX3_kind_1 : decode cX3_kind 1 = .ok (.getfield 41, 3) := by decide +kernel
theorem dX3_kind_4 : decode cX3_kind 4 = .ok (.iconst 0, 1) := by decide +kernel
theorem dX3_kind_5 : decode cX3_kind 5 = .ok (.iaload, 1) := by decide +kernel
theorem dX3_kind_6 : decode cX3_kind 6 = .ok (.istore_n 2, 1) := by decide +kernel
theorem dX3_kind_7 : decode cX3_kind 7 = .ok (.aload_n 0, 1) := by decide +kernel
theorem dX3_kind_8 : decode cX3_kind 8 = .ok (.getfield 18, 3) := by decide +kernel
theorem dX3_kind_11 : decode cX3_kind 11 = .ok (.iload_n 2, 1) := by decide +kernel
theorem dX3_kind_12 : decode cX3_kind 12 = .ok (.baload, 1) := by decide +kernel
theorem dX3_kind_13 : decode cX3_kind 13 = .ok (.ifCond .eq 5, 3) := by decide +kernel
theorem dX3_kind_16 : decode cX3_kind 16 = .ok (.iconst 0, 1) := by decide +kernel
theorem dX3_kind_17 : decode cX3_kind 17 = .ok (.ireturn, 1) := by decide +kernel
theorem dX3_kind_18 : decode cX3_kind 18 = .ok (.aload_n 0, 1) := by decide +kernel
theorem dX3_kind_19 : decode cX3_kind 19 = .ok (.getfield 22, 3) := by decide +kernel
theorem dX3_kind_22 : decode cX3_kind 22 = .ok (.iload_n 2, 1) := by decide +kernel
theorem dX3_kind_23 : decode cX3_kind 23 = .ok (.iaload, 1) := by decide +kernel
theorem dX3_kind_24 : decode cX3_kind 24 = .ok (.ifCond .eq 7, 3) := by decide +kernel
theorem dX3_kind_27 : decode cX3_kind 27 = .ok (.iconst 1, 1) := by decide +kernel
theorem dX3_kind_28 : decode cX3_kind 28 = .ok (.goto 4, 3) := by decide +kernel
theorem dX3_kind_31 : decode cX3_kind 31 = .ok (.iconst 0, 1) := by decide +kernel
theorem dX3_kind_32 : decode cX3_kind 32 = .ok (.istore_n 3, 1) := by decide +kernel
theorem dX3_kind_33 : decode cX3_kind 33 = .ok (.iconst 1, 1) := by decide +kernel
theorem dX3_kind_34 : decode cX3_kind 34 = .ok (.istore 4, 2) := by decide +kernel
theorem dX3_kind_36 : decode cX3_kind 36 = .ok (.iload 4, 2) := by decide +kernel
theorem dX3_kind_38 : decode cX3_kind 38 = .ok (.iload_n 1, 1) := by decide +kernel
theorem dX3_kind_39 : decode cX3_kind 39 = .ok (.if_icmp .ge 40, 3) := by decide +kernel
theorem dX3_kind_42 : decode cX3_kind 42 = .ok (.iload_n 3, 1) := by decide +kernel
theorem dX3_kind_43 : decode cX3_kind 43 = .ok (.ifCond .eq 28, 3) := by decide +kernel
theorem dX3_kind_46 : decode cX3_kind 46 = .ok (.aload_n 0, 1) := by decide +kernel
theorem dX3_kind_47 : decode cX3_kind 47 = .ok (.getfield 22, 3) := by decide +kernel
theorem dX3_kind_50 : decode cX3_kind 50 = .ok (.aload_n 0, 1) := by decide +kernel
theorem dX3_kind_51 : decode cX3_kind 51 = .ok (.getfield 41, 3) := by decide +kernel
theorem dX3_kind_54 : decode cX3_kind 54 = .ok (.iload 4, 2) := by decide +kernel
theorem dX3_kind_56 : decode cX3_kind 56 = .ok (.iaload, 1) := by decide +kernel
theorem dX3_kind_57 : decode cX3_kind 57 = .ok (.iaload, 1) := by decide +kernel
theorem dX3_kind_58 : decode cX3_kind 58 = .ok (.aload_n 0, 1) := by decide +kernel
theorem dX3_kind_59 : decode cX3_kind 59 = .ok (.getfield 22, 3) := by decide +kernel
theorem dX3_kind_62 : decode cX3_kind 62 = .ok (.iload_n 2, 1) := by decide +kernel
theorem dX3_kind_63 : decode cX3_kind 63 = .ok (.iaload, 1) := by decide +kernel
theorem dX3_kind_64 : decode cX3_kind 64 = .ok (.if_icmp .ne 7, 3) := by decide +kernel
theorem dX3_kind_67 : decode cX3_kind 67 = .ok (.iconst 1, 1) := by decide +kernel
theorem dX3_kind_68 : decode cX3_kind 68 = .ok (.goto 4, 3) := by decide +kernel
theorem dX3_kind_71 : decode cX3_kind 71 = .ok (.iconst 0, 1) := by decide +kernel
theorem dX3_kind_72 : decode cX3_kind 72 = .ok (.istore_n 3, 1) := by decide +kernel
theorem dX3_kind_73 : decode cX3_kind 73 = .ok (.iinc 4 1, 3) := by decide +kernel
theorem dX3_kind_76 : decode cX3_kind 76 = .ok (.goto (-40), 3) := by decide +kernel
theorem dX3_kind_79 : decode cX3_kind 79 = .ok (.iload_n 3, 1) := by decide +kernel
theorem dX3_kind_80 : decode cX3_kind 80 = .ok (.ifCond .eq 5, 3) := by decide +kernel
theorem dX3_kind_83 : decode cX3_kind 83 = .ok (.iconst 1, 1) := by decide +kernel
theorem dX3_kind_84 : decode cX3_kind 84 = .ok (.ireturn, 1) := by decide +kernel
theorem dX3_kind_85 : decode cX3_kind 85 = .ok (.iload_n 1, 1) := by decide +kernel
theorem dX3_kind_86 : decode cX3_kind 86 = .ok (.bipush 12, 2) := by decide +kernel
theorem dX3_kind_88 : decode cX3_kind 88 = .ok (.if_icmp .ge 7, 3) := by decide +kernel
theorem dX3_kind_91 : decode cX3_kind 91 = .ok (.iconst 2, 1) := by decide +kernel
theorem dX3_kind_92 : decode cX3_kind 92 = .ok (.goto 4, 3) := by decide +kernel
theorem dX3_kind_95 : decode cX3_kind 95 = .ok (.iconst 3, 1) := by decide +kernel
theorem dX3_kind_96 : decode cX3_kind 96 = .ok (.ireturn, 1) := by decide +kernel
theorem dX3_tellStretch_0 : decode cX3_tellStretch 0 = .ok (.bipush 32, 2) := by decide +kernel
theorem dX3_tellStretch_2 : decode cX3_tellStretch 2 = .ok (.istore 4, 2) := by decide +kernel
theorem dX3_tellStretch_4 : decode cX3_tellStretch 4 = .ok (.iconst 0, 1) := by decide +kernel
theorem dX3_tellStretch_5 : decode cX3_tellStretch 5 = .ok (.istore 5, 2) := by decide +kernel
theorem dX3_tellStretch_7 : decode cX3_tellStretch 7 = .ok (.iconst 0, 1) := by decide +kernel
theorem dX3_tellStretch_8 : decode cX3_tellStretch 8 = .ok (.istore 6, 2) := by decide +kernel
theorem dX3_tellStretch_10 : decode cX3_tellStretch 10 = .ok (.iload 6, 2) := by decide +kernel
theorem dX3_tellStretch_12 : decode cX3_tellStretch 12 = .ok (.iload_n 3, 1) := by decide +kernel
theorem dX3_tellStretch_13 : decode cX3_tellStretch 13 = .ok (.if_icmp .ge 58, 3) := by decide +kernel
theorem dX3_tellStretch_16 : decode cX3_tellStretch 16 = .ok (.aload_n 2, 1) := by decide +kernel
theorem dX3_tellStretch_17 : decode cX3_tellStretch 17 = .ok (.aload_n 0, 1) := by decide +kernel
theorem dX3_tellStretch_18 : decode cX3_tellStretch 18 = .ok (.getfield 41, 3) := by decide +kernel
theorem dX3_tellStretch_21 : decode cX3_tellStretch 21 = .ok (.iload 6, 2) := by decide +kernel
theorem dX3_tellStretch_23 : decode cX3_tellStretch 23 = .ok (.iaload, 1) := by decide +kernel
theorem dX3_tellStretch_24 : decode cX3_tellStretch 24 = .ok (.iaload, 1) := by decide +kernel
theorem dX3_tellStretch_25 : decode cX3_tellStretch 25 = .ok (.istore 7, 2) := by decide +kernel
theorem dX3_tellStretch_27 : decode cX3_tellStretch 27 = .ok (.iload 7, 2) := by decide +kernel
theorem dX3_tellStretch_29 : decode cX3_tellStretch 29 = .ok (.invokestatic 109, 3) := by decide +kernel
theorem dX3_tellStretch_32 : decode cX3_tellStretch 32 = .ok (.istore 8, 2) := by decide +kernel
theorem dX3_tellStretch_34 : decode cX3_tellStretch 34 = .ok (.iload 7, 2) := by decide +kernel
theorem dX3_tellStretch_36 : decode cX3_tellStretch 36 = .ok (.iload 8, 2) := by decide +kernel
theorem dX3_tellStretch_38 : decode cX3_tellStretch 38 = .ok (.imul, 1) := by decide +kernel
theorem dX3_tellStretch_39 : decode cX3_tellStretch 39 = .ok (.bipush 32, 2) := by decide +kernel
theorem dX3_tellStretch_41 : decode cX3_tellStretch 41 = .ok (.isub, 1) := by decide +kernel
theorem dX3_tellStretch_42 : decode cX3_tellStretch 42 = .ok (.istore 9, 2) := by decide +kernel
theorem dX3_tellStretch_44 : decode cX3_tellStretch 44 = .ok (.iload 4, 2) := by decide +kernel
theorem dX3_tellStretch_46 : decode cX3_tellStretch 46 = .ok (.iload 9, 2) := by decide +kernel
theorem dX3_tellStretch_48 : decode cX3_tellStretch 48 = .ok (.invokestatic 112, 3) := by decide +kernel
theorem dX3_tellStretch_51 : decode cX3_tellStretch 51 = .ok (.istore 4, 2) := by decide +kernel
theorem dX3_tellStretch_53 : decode cX3_tellStretch 53 = .ok (.iload 5, 2) := by decide +kernel
theorem dX3_tellStretch_55 : decode cX3_tellStretch 55 = .ok (.iload 9, 2) := by decide +kernel
theorem dX3_tellStretch_57 : decode cX3_tellStretch 57 = .ok (.iload 8, 2) := by decide +kernel
theorem dX3_tellStretch_59 : decode cX3_tellStretch 59 = .ok (.iadd, 1) := by decide +kernel
theorem dX3_tellStretch_60 : decode cX3_tellStretch 60 = .ok (.invokestatic 116, 3) := by decide +kernel
theorem dX3_tellStretch_63 : decode cX3_tellStretch 63 = .ok (.istore 5, 2) := by decide +kernel
theorem dX3_tellStretch_65 : decode cX3_tellStretch 65 = .ok (.iinc 6 1, 3) := by decide +kernel
theorem dX3_tellStretch_68 : decode cX3_tellStretch 68 = .ok (.goto (-58), 3) := by decide +kernel
theorem dX3_tellStretch_71 : decode cX3_tellStretch 71 = .ok (.aload_n 0, 1) := by decide +kernel
theorem dX3_tellStretch_72 : decode cX3_tellStretch 72 = .ok (.getfield 38, 3) := by decide +kernel
theorem dX3_tellStretch_75 : decode cX3_tellStretch 75 = .ok (.iload_n 1, 1) := by decide +kernel
theorem dX3_tellStretch_76 : decode cX3_tellStretch 76 = .ok (.iload 4, 2) := by decide +kernel
theorem dX3_tellStretch_78 : decode cX3_tellStretch 78 = .ok (.iastore, 1) := by decide +kernel
theorem dX3_tellStretch_79 : decode cX3_tellStretch 79 = .ok (.aload_n 0, 1) := by decide +kernel
theorem dX3_tellStretch_80 : decode cX3_tellStretch 80 = .ok (.getfield 38, 3) := by decide +kernel
theorem dX3_tellStretch_83 : decode cX3_tellStretch 83 = .ok (.iload_n 1, 1) := by decide +kernel
theorem dX3_tellStretch_84 : decode cX3_tellStretch 84 = .ok (.iconst 1, 1) := by decide +kernel
theorem dX3_tellStretch_85 : decode cX3_tellStretch 85 = .ok (.iadd, 1) := by decide +kernel
theorem dX3_tellStretch_86 : decode cX3_tellStretch 86 = .ok (.iload 5, 2) := by decide +kernel
theorem dX3_tellStretch_88 : decode cX3_tellStretch 88 = .ok (.iastore, 1) := by decide +kernel
theorem dX3_tellStretch_89 : decode cX3_tellStretch 89 = .ok (.return_, 1) := by decide +kernel
theorem dX3_width_0 : decode cX3_width 0 = .ok (.iconst 1, 1) := by decide +kernel
theorem dX3_width_1 : decode cX3_width 1 = .ok (.istore_n 1, 1) := by decide +kernel
theorem dX3_width_2 : decode cX3_width 2 = .ok (.iconst 0, 1) := by decide +kernel
theorem dX3_width_3 : decode cX3_width 3 = .ok (.istore_n 2, 1) := by decide +kernel
theorem dX3_width_4 : decode cX3_width 4 = .ok (.iload_n 2, 1) := by decide +kernel
theorem dX3_width_5 : decode cX3_width 5 = .ok (.iconst 5, 1) := by decide +kernel
theorem dX3_width_6 : decode cX3_width 6 = .ok (.if_icmp .ge 21, 3) := by decide +kernel
theorem dX3_width_9 : decode cX3_width 9 = .ok (.iload_n 0, 1) := by decide +kernel
theorem dX3_width_10 : decode cX3_width 10 = .ok (.iload_n 1, 1) := by decide +kernel
theorem dX3_width_11 : decode cX3_width 11 = .ok (.imul, 1) := by decide +kernel
theorem dX3_width_12 : decode cX3_width 12 = .ok (.bipush 32, 2) := by decide +kernel
theorem dX3_width_14 : decode cX3_width 14 = .ok (.if_icmp .ge 13, 3) := by decide +kernel
theorem dX3_width_17 : decode cX3_width 17 = .ok (.iload_n 1, 1) := by decide +kernel
theorem dX3_width_18 : decode cX3_width 18 = .ok (.iconst 2, 1) := by decide +kernel
theorem dX3_width_19 : decode cX3_width 19 = .ok (.imul, 1) := by decide +kernel
theorem dX3_width_20 : decode cX3_width 20 = .ok (.istore_n 1, 1) := by decide +kernel
theorem dX3_width_21 : decode cX3_width 21 = .ok (.iinc 2 1, 3) := by decide +kernel
theorem dX3_width_24 : decode cX3_width 24 = .ok (.goto (-20), 3) := by decide +kernel
theorem dX3_width_27 : decode cX3_width 27 = .ok (.iload_n 1, 1) := by decide +kernel
theorem dX3_width_28 : decode cX3_width 28 = .ok (.ireturn, 1) := by decide +kernel
theorem dX4_crossOfSteps_0 : decode cX4_crossOfSteps 0 = .ok (.aload_n 0, 1) := by decide +kernel
theorem dX4_crossOfSteps_1 : decode cX4_crossOfSteps 1 = .ok (.iload_n 1, 1) := by decide +kernel
theorem dX4_crossOfSteps_2 : decode cX4_crossOfSteps 2 = .ok (.iload_n 2, 1) := by decide +kernel
theorem dX4_crossOfSteps_3 : decode cX4_crossOfSteps 3 = .ok (.iconst 0, 1) := by decide +kernel
theorem dX4_crossOfSteps_4 : decode cX4_crossOfSteps 4 = .ok (.invokevirtual 9, 3) := by decide +kernel
theorem dX4_crossOfSteps_7 : decode cX4_crossOfSteps 7 = .ok (.i2l, 1) := by decide +kernel
theorem dX4_crossOfSteps_8 : decode cX4_crossOfSteps 8 = .ok (.aload_n 3, 1) := by decide +kernel
theorem dX4_crossOfSteps_9 : decode cX4_crossOfSteps 9 = .ok (.iload 4, 2) := by decide +kernel
theorem dX4_crossOfSteps_11 : decode cX4_crossOfSteps 11 = .ok (.iload 5, 2) := by decide +kernel
theorem dX4_crossOfSteps_13 : decode cX4_crossOfSteps 13 = .ok (.iconst 1, 1) := by decide +kernel
theorem dX4_crossOfSteps_14 : decode cX4_crossOfSteps 14 = .ok (.invokevirtual 9, 3) := by decide +kernel
theorem dX4_crossOfSteps_17 : decode cX4_crossOfSteps 17 = .ok (.i2l, 1) := by decide +kernel
theorem dX4_crossOfSteps_18 : decode cX4_crossOfSteps 18 = .ok (.lmul, 1) := by decide +kernel
theorem dX4_crossOfSteps_19 : decode cX4_crossOfSteps 19 = .ok (.aload_n 0, 1) := by decide +kernel
theorem dX4_crossOfSteps_20 : decode cX4_crossOfSteps 20 = .ok (.iload_n 1, 1) := by decide +kernel
theorem dX4_crossOfSteps_21 : decode cX4_crossOfSteps 21 = .ok (.iload_n 2, 1) := by decide +kernel
theorem dX4_crossOfSteps_22 : decode cX4_crossOfSteps 22 = .ok (.iconst 1, 1) := by decide +kernel
theorem dX4_crossOfSteps_23 : decode cX4_crossOfSteps 23 = .ok (.invokevirtual 9, 3) := by decide +kernel
theorem dX4_crossOfSteps_26 : decode cX4_crossOfSteps 26 = .ok (.i2l, 1) := by decide +kernel
theorem dX4_crossOfSteps_27 : decode cX4_crossOfSteps 27 = .ok (.aload_n 3, 1) := by decide +kernel
theorem dX4_crossOfSteps_28 : decode cX4_crossOfSteps 28 = .ok (.iload 4, 2) := by decide +kernel
theorem dX4_crossOfSteps_30 : decode cX4_crossOfSteps 30 = .ok (.iload 5, 2) := by decide +kernel
theorem dX4_crossOfSteps_32 : decode cX4_crossOfSteps 32 = .ok (.iconst 0, 1) := by decide +kernel
theorem dX4_crossOfSteps_33 : decode cX4_crossOfSteps 33 = .ok (.invokevirtual 9, 3) := by decide +kernel
theorem dX4_crossOfSteps_36 : decode cX4_crossOfSteps 36 = .ok (.i2l, 1) := by decide +kernel
theorem dX4_crossOfSteps_37 : decode cX4_crossOfSteps 37 = .ok (.lmul, 1) := by decide +kernel
theorem dX4_crossOfSteps_38 : decode cX4_crossOfSteps 38 = .ok (.lsub, 1) := by decide +kernel
theorem dX4_crossOfSteps_39 : decode cX4_crossOfSteps 39 = .ok (.lreturn, 1) := by decide +kernel
theorem dX4_side_0 : decode cX4_side 0 = .ok (.iload_n 1, 1) := by decide +kernel
theorem dX4_side_1 : decode cX4_side 1 = .ok (.bipush 8, 2) := by decide +kernel
theorem dX4_side_3 : decode cX4_side 3 = .ok (.imul, 1) := by decide +kernel
theorem dX4_side_4 : decode cX4_side 4 = .ok (.istore 5, 2) := by decide +kernel
theorem dX4_side_6 : decode cX4_side 6 = .ok (.iload 5, 2) := by decide +kernel
theorem dX4_side_8 : decode cX4_side 8 = .ok (.bipush 8, 2) := by decide +kernel
theorem dX4_side_10 : decode cX4_side 10 = .ok (.iadd, 1) := by decide +kernel
theorem dX4_side_11 : decode cX4_side 11 = .ok (.iconst 2, 1) := by decide +kernel
theorem dX4_side_12 : decode cX4_side 12 = .ok (.isub, 1) := by decide +kernel
theorem dX4_side_13 : decode cX4_side 13 = .ok (.istore 6, 2) := by decide +kernel
theorem dX4_side_15 : decode cX4_side 15 = .ok (.iload_n 3, 1) := by decide +kernel
theorem dX4_side_16 : decode cX4_side 16 = .ok (.bipush 8, 2) := by decide +kernel
theorem dX4_side_18 : decode cX4_side 18 = .ok (.imul, 1) := by decide +kernel
theorem dX4_side_19 : decode cX4_side 19 = .ok (.iconst 2, 1) := by decide +kernel
theorem dX4_side_20 : decode cX4_side 20 = .ok (.iload 4, 2) := by decide +kernel
theorem dX4_side_22 : decode cX4_side 22 = .ok (.imul, 1) := by decide +kernel
theorem dX4_side_23 : decode cX4_side 23 = .ok (.iadd, 1) := by decide +kernel
theorem dX4_side_24 : decode cX4_side 24 = .ok (.istore 7, 2) := by decide +kernel
theorem dX4_side_26 : decode cX4_side 26 = .ok (.aload_n 0, 1) := by decide +kernel
theorem dX4_side_27 : decode cX4_side 27 = .ok (.getfield 15, 3) := by decide +kernel
theorem dX4_side_30 : decode cX4_side 30 = .ok (.iload 5, 2) := by decide +kernel
theorem dX4_side_32 : decode cX4_side 32 = .ok (.iaload, 1) := by decide +kernel
theorem dX4_side_33 : decode cX4_side 33 = .ok (.istore 8, 2) := by decide +kernel
theorem dX4_side_35 : decode cX4_side 35 = .ok (.aload_n 0, 1) := by decide +kernel
theorem dX4_side_36 : decode cX4_side 36 = .ok (.getfield 15, 3) := by decide +kernel
theorem dX4_side_39 : decode cX4_side 39 = .ok (.iload 5, 2) := by decide +kernel
theorem dX4_side_41 : decode cX4_side 41 = .ok (.iconst 1, 1) := by decide +kernel
theorem dX4_side_42 : decode cX4_side 42 = .ok (.iadd, 1) := by decide +kernel
theorem dX4_side_43 : decode cX4_side 43 = .ok (.iaload, 1) := by decide +kernel
theorem dX4_side_44 : decode cX4_side 44 = .ok (.istore 9, 2) := by decide +kernel
theorem dX4_side_46 : decode cX4_side 46 = .ok (.aload_n 0, 1) := by decide +kernel
theorem dX4_side_47 : decode cX4_side 47 = .ok (.getfield 15, 3) := by decide +kernel
theorem dX4_side_50 : decode cX4_side 50 = .ok (.iload 6, 2) := by decide +kernel
theorem dX4_side_52 : decode cX4_side 52 = .ok (.iaload, 1) := by decide +kernel
theorem dX4_side_53 : decode cX4_side 53 = .ok (.iload 8, 2) := by decide +kernel
theorem dX4_side_55 : decode cX4_side 55 = .ok (.isub, 1) := by decide +kernel
theorem dX4_side_56 : decode cX4_side 56 = .ok (.i2l, 1) := by decide +kernel
theorem dX4_side_57 : decode cX4_side 57 = .ok (.lstore 10, 2) := by decide +kernel
theorem dX4_side_59 : decode cX4_side 59 = .ok (.aload_n 0, 1) := by decide +kernel
theorem dX4_side_60 : decode cX4_side 60 = .ok (.getfield 15, 3) := by decide +kernel
theorem dX4_side_63 : decode cX4_side 63 = .ok (.iload 6, 2) := by decide +kernel
theorem dX4_side_65 : decode cX4_side 65 = .ok (.iconst 1, 1) := by decide +kernel
theorem dX4_side_66 : decode cX4_side 66 = .ok (.iadd, 1) := by decide +kernel
theorem dX4_side_67 : decode cX4_side 67 = .ok (.iaload, 1) := by decide +kernel
theorem dX4_side_68 : decode cX4_side 68 = .ok (.iload 9, 2) := by decide +kernel
theorem dX4_side_70 : decode cX4_side 70 = .ok (.isub, 1) := by decide +kernel
theorem dX4_side_71 : decode cX4_side 71 = .ok (.i2l, 1) := by decide +kernel
theorem dX4_side_72 : decode cX4_side 72 = .ok (.lstore 12, 2) := by decide +kernel
theorem dX4_side_74 : decode cX4_side 74 = .ok (.lload 10, 2) := by decide +kernel
theorem dX4_side_76 : decode cX4_side 76 = .ok (.aload_n 2, 1) := by decide +kernel
theorem dX4_side_77 : decode cX4_side 77 = .ok (.getfield 15, 3) := by decide +kernel
theorem dX4_side_80 : decode cX4_side 80 = .ok (.iload 7, 2) := by decide +kernel
theorem dX4_side_82 : decode cX4_side 82 = .ok (.iconst 1, 1) := by decide +kernel
theorem dX4_side_83 : decode cX4_side 83 = .ok (.iadd, 1) := by decide +kernel
theorem dX4_side_84 : decode cX4_side 84 = .ok (.iaload, 1) := by decide +kernel
theorem dX4_side_85 : decode cX4_side 85 = .ok (.iload 9, 2) := by decide +kernel
theorem dX4_side_87 : decode cX4_side 87 = .ok (.isub, 1) := by decide +kernel
theorem dX4_side_88 : decode cX4_side 88 = .ok (.i2l, 1) := by decide +kernel
theorem dX4_side_89 : decode cX4_side 89 = .ok (.lmul, 1) := by decide +kernel
theorem dX4_side_90 : decode cX4_side 90 = .ok (.lload 12, 2) := by decide +kernel
theorem dX4_side_92 : decode cX4_side 92 = .ok (.aload_n 2, 1) := by decide +kernel
theorem dX4_side_93 : decode cX4_side 93 = .ok (.getfield 15, 3) := by decide +kernel
theorem dX4_side_96 : decode cX4_side 96 = .ok (.iload 7, 2) := by decide +kernel
theorem dX4_side_98 : decode cX4_side 98 = .ok (.iaload, 1) := by decide +kernel
theorem dX4_side_99 : decode cX4_side 99 = .ok (.iload 8, 2) := by decide +kernel
theorem dX4_side_101 : decode cX4_side 101 = .ok (.isub, 1) := by decide +kernel
theorem dX4_side_102 : decode cX4_side 102 = .ok (.i2l, 1) := by decide +kernel
theorem dX4_side_103 : decode cX4_side 103 = .ok (.lmul, 1) := by decide +kernel
theorem dX4_side_104 : decode cX4_side 104 = .ok (.lsub, 1) := by decide +kernel
theorem dX4_side_105 : decode cX4_side 105 = .ok (.lreturn, 1) := by decide +kernel
theorem dX4_placeByBand_0 : decode cX4_placeByBand 0 = .ok (.lload_n 2, 1) := by decide +kernel
theorem dX4_placeByBand_1 : decode cX4_placeByBand 1 = .ok (.aload_n 0, 1) := by decide +kernel
theorem dX4_placeByBand_2 : decode cX4_placeByBand 2 = .ok (.getfield 19, 3) := by decide +kernel
theorem dX4_placeByBand_5 : decode cX4_placeByBand 5 = .ok (.iload_n 1, 1) := by decide +kernel
theorem dX4_placeByBand_6 : decode cX4_placeByBand 6 = .ok (.laload, 1) := by decide +kernel
theorem dX4_placeByBand_7 : decode cX4_placeByBand 7 = .ok (.lcmp, 1) := by decide +kernel
theorem dX4_placeByBand_8 : decode cX4_placeByBand 8 = .ok (.ifCond .le 5, 3) := by decide +kernel
theorem dX4_placeByBand_11 : decode cX4_placeByBand 11 = .ok (.iconst 1, 1) := by decide +kernel
theorem dX4_placeByBand_12 : decode cX4_placeByBand 12 = .ok (.ireturn, 1) := by decide +kernel
theorem dX4_placeByBand_13 : decode cX4_placeByBand 13 = .ok (.lload_n 2, 1) := by decide +kernel
theorem dX4_placeByBand_14 : decode cX4_placeByBand 14 = .ok (.aload_n 0, 1) := by decide +kernel
theorem dX4_placeByBand_15 : decode cX4_placeByBand 15 = .ok (.getfield 23, 3) := by decide +kernel
theorem dX4_placeByBand_18 : decode cX4_placeByBand 18 = .ok (.iload_n 1, 1) := by decide +kernel
theorem dX4_placeByBand_19 : decode cX4_placeByBand 19 = .ok (.laload, 1) := by decide +kernel
theorem dX4_placeByBand_20 : decode cX4_placeByBand 20 = .ok (.lcmp, 1) := by decide +kernel
theorem dX4_placeByBand_21 : decode cX4_placeByBand 21 = .ok (.ifCond .ge 7, 3) := by decide +kernel
theorem dX4_placeByBand_24 : decode cX4_placeByBand 24 = .ok (.iconst (-1), 1) := by decide +kernel
theorem dX4_placeByBand_25 : decode cX4_placeByBand 25 = .ok (.goto 4, 3) := by decide +kernel
theorem dX4_placeByBand_28 : decode cX4_placeByBand 28 = .ok (.iconst 0, 1) := by decide +kernel
theorem dX4_placeByBand_29 : decode cX4_placeByBand 29 = .ok (.ireturn, 1) := by decide +kernel
theorem dX4_whyApart_0 : decode cX4_whyApart 0 = .ok (.aload_n 0, 1) := by decide +kernel
theorem dX4_whyApart_1 : decode cX4_whyApart 1 = .ok (.iload_n 1, 1) := by decide +kernel
theorem dX4_whyApart_2 : decode cX4_whyApart 2 = .ok (.aload_n 2, 1) := by decide +kernel
theorem dX4_whyApart_3 : decode cX4_whyApart 3 = .ok (.iload_n 3, 1) := by decide +kernel
theorem dX4_whyApart_4 : decode cX4_whyApart 4 = .ok (.iconst 0, 1) := by decide +kernel
theorem dX4_whyApart_5 : decode cX4_whyApart 5 = .ok (.invokestatic 26, 3) := by decide +kernel
theorem dX4_whyApart_8 : decode cX4_whyApart 8 = .ok (.ifCond .ne 14, 3) := by decide +kernel
theorem dX4_whyApart_11 : decode cX4_whyApart 11 = .ok (.aload_n 0, 1) := by decide +kernel
theorem dX4_whyApart_12 : decode cX4_whyApart 12 = .ok (.iload_n 1, 1) := by decide +kernel
theorem dX4_whyApart_13 : decode cX4_whyApart 13 = .ok (.aload_n 2, 1) := by decide +kernel
theorem dX4_whyApart_14 : decode cX4_whyApart 14 = .ok (.iload_n 3, 1) := by decide +kernel
theorem dX4_whyApart_15 : decode cX4_whyApart 15 = .ok (.iconst 1, 1) := by decide +kernel
theorem dX4_whyApart_16 : decode cX4_whyApart 16 = .ok (.invokestatic 26, 3) := by decide +kernel
theorem dX4_whyApart_19 : decode cX4_whyApart 19 = .ok (.ifCond .eq 5, 3) := by decide +kernel
theorem dX4_whyApart_22 : decode cX4_whyApart 22 = .ok (.iconst 1, 1) := by decide +kernel
theorem dX4_whyApart_23 : decode cX4_whyApart 23 = .ok (.ireturn, 1) := by decide +kernel
theorem dX4_whyApart_24 : decode cX4_whyApart 24 = .ok (.aload_n 0, 1) := by decide +kernel
theorem dX4_whyApart_25 : decode cX4_whyApart 25 = .ok (.iload_n 1, 1) := by decide +kernel
theorem dX4_whyApart_26 : decode cX4_whyApart 26 = .ok (.aload_n 2, 1) := by decide +kernel
theorem dX4_whyApart_27 : decode cX4_whyApart 27 = .ok (.iload_n 3, 1) := by decide +kernel
theorem dX4_whyApart_28 : decode cX4_whyApart 28 = .ok (.invokestatic 32, 3) := by decide +kernel
theorem dX4_whyApart_31 : decode cX4_whyApart 31 = .ok (.ifCond .eq 5, 3) := by decide +kernel
theorem dX4_whyApart_34 : decode cX4_whyApart 34 = .ok (.iconst 2, 1) := by decide +kernel
theorem dX4_whyApart_35 : decode cX4_whyApart 35 = .ok (.ireturn, 1) := by decide +kernel
theorem dX4_whyApart_36 : decode cX4_whyApart 36 = .ok (.aload_n 2, 1) := by decide +kernel
theorem dX4_whyApart_37 : decode cX4_whyApart 37 = .ok (.iload_n 3, 1) := by decide +kernel
theorem dX4_whyApart_38 : decode cX4_whyApart 38 = .ok (.aload_n 0, 1) := by decide +kernel
theorem dX4_whyApart_39 : decode cX4_whyApart 39 = .ok (.iload_n 1, 1) := by decide +kernel
theorem dX4_whyApart_40 : decode cX4_whyApart 40 = .ok (.invokestatic 32, 3) := by decide +kernel
theorem dX4_whyApart_43 : decode cX4_whyApart 43 = .ok (.ifCond .eq 7, 3) := by decide +kernel
theorem dX4_whyApart_46 : decode cX4_whyApart 46 = .ok (.iconst 3, 1) := by decide +kernel
theorem dX4_whyApart_47 : decode cX4_whyApart 47 = .ok (.goto 4, 3) := by decide +kernel
theorem dX4_whyApart_50 : decode cX4_whyApart 50 = .ok (.iconst 0, 1) := by decide +kernel
theorem dX4_whyApart_51 : decode cX4_whyApart 51 = .ok (.ireturn, 1) := by decide +kernel
theorem dX4_boxesApart_0 : decode cX4_boxesApart 0 = .ok (.aload_n 0, 1) := by decide +kernel
theorem dX4_boxesApart_1 : decode cX4_boxesApart 1 = .ok (.iload_n 1, 1) := by decide +kernel
theorem dX4_boxesApart_2 : decode cX4_boxesApart 2 = .ok (.iload 4, 2) := by decide +kernel
theorem dX4_boxesApart_4 : decode cX4_boxesApart 4 = .ok (.invokevirtual 36, 3) := by decide +kernel
theorem dX4_boxesApart_7 : decode cX4_boxesApart 7 = .ok (.aload_n 2, 1) := by decide +kernel
theorem dX4_boxesApart_8 : decode cX4_boxesApart 8 = .ok (.iload_n 3, 1) := by decide +kernel
theorem dX4_boxesApart_9 : decode cX4_boxesApart 9 = .ok (.iload 4, 2) := by decide +kernel
theorem dX4_boxesApart_11 : decode cX4_boxesApart 11 = .ok (.invokevirtual 40, 3) := by decide +kernel
theorem dX4_boxesApart_14 : decode cX4_boxesApart 14 = .ok (.if_icmp .lt 20, 3) := by decide +kernel
theorem dX4_boxesApart_17 : decode cX4_boxesApart 17 = .ok (.aload_n 2, 1) := by decide +kernel
theorem dX4_boxesApart_18 : decode cX4_boxesApart 18 = .ok (.iload_n 3, 1) := by decide +kernel
theorem dX4_boxesApart_19 : decode cX4_boxesApart 19 = .ok (.iload 4, 2) := by decide +kernel
theorem dX4_boxesApart_21 : decode cX4_boxesApart 21 = .ok (.invokevirtual 36, 3) := by decide +kernel
theorem dX4_boxesApart_24 : decode cX4_boxesApart 24 = .ok (.aload_n 0, 1) := by decide +kernel
theorem dX4_boxesApart_25 : decode cX4_boxesApart 25 = .ok (.iload_n 1, 1) := by decide +kernel
theorem dX4_boxesApart_26 : decode cX4_boxesApart 26 = .ok (.iload 4, 2) := by decide +kernel
theorem dX4_boxesApart_28 : decode cX4_boxesApart 28 = .ok (.invokevirtual 40, 3) := by decide +kernel
theorem dX4_boxesApart_31 : decode cX4_boxesApart 31 = .ok (.if_icmp .ge 7, 3) := by decide +kernel
theorem dX4_boxesApart_34 : decode cX4_boxesApart 34 = .ok (.iconst 1, 1) := by decide +kernel
theorem dX4_boxesApart_35 : decode cX4_boxesApart 35 = .ok (.goto 4, 3) := by decide +kernel
theorem dX4_boxesApart_38 : decode cX4_boxesApart 38 = .ok (.iconst 0, 1) := by decide +kernel
theorem dX4_boxesApart_39 : decode cX4_boxesApart 39 = .ok (.ireturn, 1) := by decide +kernel
theorem dX4_clears_0 : decode cX4_clears 0 = .ok (.aload_n 0, 1) := by decide +kernel
theorem dX4_clears_1 : decode cX4_clears 1 = .ok (.iload_n 1, 1) := by decide +kernel
theorem dX4_clears_2 : decode cX4_clears 2 = .ok (.aload_n 0, 1) := by decide +kernel
theorem dX4_clears_3 : decode cX4_clears 3 = .ok (.iload_n 1, 1) := by decide +kernel
theorem dX4_clears_4 : decode cX4_clears 4 = .ok (.aload_n 2, 1) := by decide +kernel
theorem dX4_clears_5 : decode cX4_clears 5 = .ok (.iload_n 3, 1) := by decide +kernel
theorem dX4_clears_6 : decode cX4_clears 6 = .ok (.iconst 0, 1) := by decide +kernel
theorem dX4_clears_7 : decode cX4_clears 7 = .ok (.invokestatic 43, 3) := by decide +kernel
theorem dX4_clears_10 : decode cX4_clears 10 = .ok (.invokestatic 47, 3) := by decide +kernel
theorem dX4_clears_13 : decode cX4_clears 13 = .ok (.istore 4, 2) := by decide +kernel
theorem dX4_clears_15 : decode cX4_clears 15 = .ok (.iconst 1, 1) := by decide +kernel
theorem dX4_clears_16 : decode cX4_clears 16 = .ok (.istore 5, 2) := by decide +kernel
theorem dX4_clears_18 : decode cX4_clears 18 = .ok (.iload 5, 2) := by decide +kernel
theorem dX4_clears_20 : decode cX4_clears 20 = .ok (.iconst 4, 1) := by decide +kernel
theorem dX4_clears_21 : decode cX4_clears 21 = .ok (.if_icmp .ge 35, 3) := by decide +kernel
theorem dX4_clears_24 : decode cX4_clears 24 = .ok (.iload 4, 2) := by decide +kernel
theorem dX4_clears_26 : decode cX4_clears 26 = .ok (.ifCond .eq 30, 3) := by decide +kernel
theorem dX4_clears_29 : decode cX4_clears 29 = .ok (.aload_n 0, 1) := by decide +kernel
theorem dX4_clears_30 : decode cX4_clears 30 = .ok (.iload_n 1, 1) := by decide +kernel
theorem dX4_clears_31 : decode cX4_clears 31 = .ok (.aload_n 0, 1) := by decide +kernel
theorem dX4_clears_32 : decode cX4_clears 32 = .ok (.iload_n 1, 1) := by decide +kernel
theorem dX4_clears_33 : decode cX4_clears 33 = .ok (.aload_n 2, 1) := by decide +kernel
theorem dX4_clears_34 : decode cX4_clears 34 = .ok (.iload_n 3, 1) := by decide +kernel
theorem dX4_clears_35 : decode cX4_clears 35 = .ok (.iload 5, 2) := by decide +kernel
theorem dX4_clears_37 : decode cX4_clears 37 = .ok (.invokestatic 43, 3) := by decide +kernel
theorem dX4_clears_40 : decode cX4_clears 40 = .ok (.invokestatic 47, 3) := by decide +kernel
theorem dX4_clears_43 : decode cX4_clears 43 = .ok (.iload 4, 2) := by decide +kernel
theorem dX4_clears_45 : decode cX4_clears 45 = .ok (.if_icmp .eq 5, 3) := by decide +kernel
theorem dX4_clears_48 : decode cX4_clears 48 = .ok (.iconst 0, 1) := by decide +kernel
theorem dX4_clears_49 : decode cX4_clears 49 = .ok (.ireturn, 1) := by decide +kernel
theorem dX4_clears_50 : decode cX4_clears 50 = .ok (.iinc 5 1, 3) := by decide +kernel
theorem dX4_clears_53 : decode cX4_clears 53 = .ok (.goto (-35), 3) := by decide +kernel
theorem dX4_clears_56 : decode cX4_clears 56 = .ok (.iload 4, 2) := by decide +kernel
theorem dX4_clears_58 : decode cX4_clears 58 = .ok (.ifCond .eq 7, 3) := by decide +kernel
theorem dX4_clears_61 : decode cX4_clears 61 = .ok (.iconst 1, 1) := by decide +kernel
theorem dX4_clears_62 : decode cX4_clears 62 = .ok (.goto 4, 3) := by decide +kernel
theorem dX4_clears_65 : decode cX4_clears 65 = .ok (.iconst 0, 1) := by decide +kernel
theorem dX4_clears_66 : decode cX4_clears 66 = .ok (.ireturn, 1) := by decide +kernel
theorem dX4_wayOfTurn_0 : decode cX4_wayOfTurn 0 = .ok (.aload_n 0, 1) := by decide +kernel
theorem dX4_wayOfTurn_1 : decode cX4_wayOfTurn 1 = .ok (.iload_n 1, 1) := by decide +kernel
theorem dX4_wayOfTurn_2 : decode cX4_wayOfTurn 2 = .ok (.iconst 0, 1) := by decide +kernel
theorem dX4_wayOfTurn_3 : decode cX4_wayOfTurn 3 = .ok (.aload_n 2, 1) := by decide +kernel
theorem dX4_wayOfTurn_4 : decode cX4_wayOfTurn 4 = .ok (.iload_n 3, 1) := by decide +kernel
theorem dX4_wayOfTurn_5 : decode cX4_wayOfTurn 5 = .ok (.iconst 0, 1) := by decide +kernel
theorem dX4_wayOfTurn_6 : decode cX4_wayOfTurn 6 = .ok (.invokestatic 51, 3) := by decide +kernel
theorem dX4_wayOfTurn_9 : decode cX4_wayOfTurn 9 = .ok (.invokestatic 55, 3) := by decide +kernel
theorem dX4_wayOfTurn_12 : decode cX4_wayOfTurn 12 = .ok (.istore 4, 2) := by decide +kernel
theorem dX4_wayOfTurn_14 : decode cX4_wayOfTurn 14 = .ok (.iconst 0, 1) := by decide +kernel
theorem dX4_wayOfTurn_15 : decode cX4_wayOfTurn 15 = .ok (.istore 5, 2) := by decide +kernel
theorem dX4_wayOfTurn_17 : decode cX4_wayOfTurn 17 = .ok (.iload 5, 2) := by decide +kernel
theorem dX4_wayOfTurn_19 : decode cX4_wayOfTurn 19 = .ok (.iconst 3, 1) := by decide +kernel
theorem dX4_wayOfTurn_20 : decode cX4_wayOfTurn 20 = .ok (.if_icmp .ge 50, 3) := by decide +kernel
theorem dX4_wayOfTurn_23 : decode cX4_wayOfTurn 23 = .ok (.iload 4, 2) := by decide +kernel
theorem dX4_wayOfTurn_25 : decode cX4_wayOfTurn 25 = .ok (.ifCond .eq 45, 3) := by decide +kernel
theorem dX4_wayOfTurn_28 : decode cX4_wayOfTurn 28 = .ok (.iconst 0, 1) := by decide +kernel
theorem dX4_wayOfTurn_29 : decode cX4_wayOfTurn 29 = .ok (.istore 6, 2) := by decide +kernel
theorem dX4_wayOfTurn_31 : decode cX4_wayOfTurn 31 = .ok (.iload 6, 2) := by decide +kernel
theorem dX4_wayOfTurn_33 : decode cX4_wayOfTurn 33 = .ok (.iconst 3, 1) := by decide +kernel
theorem dX4_wayOfTurn_34 : decode cX4_wayOfTurn 34 = .ok (.if_icmp .ge 30, 3) := by decide +kernel
theorem dX4_wayOfTurn_37 : decode cX4_wayOfTurn 37 = .ok (.aload_n 0, 1) := by decide +kernel
theorem dX4_wayOfTurn_38 : decode cX4_wayOfTurn 38 = .ok (.iload_n 1, 1) := by decide +kernel
theorem dX4_wayOfTurn_39 : decode cX4_wayOfTurn 39 = .ok (.iload 5, 2) := by decide +kernel
theorem dX4_wayOfTurn_41 : decode cX4_wayOfTurn 41 = .ok (.aload_n 2, 1) := by decide +kernel
theorem dX4_wayOfTurn_42 : decode cX4_wayOfTurn 42 = .ok (.iload_n 3, 1) := by decide +kernel
theorem dX4_wayOfTurn_43 : decode cX4_wayOfTurn 43 = .ok (.iload 6, 2) := by decide +kernel
theorem dX4_wayOfTurn_45 : decode cX4_wayOfTurn 45 = .ok (.invokestatic 51, 3) := by decide +kernel
theorem dX4_wayOfTurn_48 : decode cX4_wayOfTurn 48 = .ok (.invokestatic 55, 3) := by decide +kernel
theorem dX4_wayOfTurn_51 : decode cX4_wayOfTurn 51 = .ok (.iload 4, 2) := by decide +kernel
theorem dX4_wayOfTurn_53 : decode cX4_wayOfTurn 53 = .ok (.if_icmp .eq 5, 3) := by decide +kernel
theorem dX4_wayOfTurn_56 : decode cX4_wayOfTurn 56 = .ok (.iconst 0, 1) := by decide +kernel
theorem dX4_wayOfTurn_57 : decode cX4_wayOfTurn 57 = .ok (.ireturn, 1) := by decide +kernel
theorem dX4_wayOfTurn_58 : decode cX4_wayOfTurn 58 = .ok (.iinc 6 1, 3) := by decide +kernel
theorem dX4_wayOfTurn_61 : decode cX4_wayOfTurn 61 = .ok (.goto (-30), 3) := by decide +kernel
theorem dX4_wayOfTurn_64 : decode cX4_wayOfTurn 64 = .ok (.iinc 5 1, 3) := by decide +kernel
theorem dX4_wayOfTurn_67 : decode cX4_wayOfTurn 67 = .ok (.goto (-50), 3) := by decide +kernel
theorem dX4_wayOfTurn_70 : decode cX4_wayOfTurn 70 = .ok (.iload 4, 2) := by decide +kernel
theorem dX4_wayOfTurn_72 : decode cX4_wayOfTurn 72 = .ok (.ireturn, 1) := by decide +kernel
theorem dX4_sign_0 : decode cX4_sign 0 = .ok (.lload_n 0, 1) := by decide +kernel
theorem dX4_sign_1 : decode cX4_sign 1 = .ok (.lconst 0, 1) := by decide +kernel
theorem dX4_sign_2 : decode cX4_sign 2 = .ok (.lcmp, 1) := by decide +kernel
theorem dX4_sign_3 : decode cX4_sign 3 = .ok (.ifCond .le 5, 3) := by decide +kernel
theorem dX4_sign_6 : decode cX4_sign 6 = .ok (.iconst 1, 1) := by decide +kernel
theorem dX4_sign_7 : decode cX4_sign 7 = .ok (.ireturn, 1) := by decide +kernel
theorem dX4_sign_8 : decode cX4_sign 8 = .ok (.lload_n 0, 1) := by decide +kernel
theorem dX4_sign_9 : decode cX4_sign 9 = .ok (.lconst 0, 1) := by decide +kernel
theorem dX4_sign_10 : decode cX4_sign 10 = .ok (.lcmp, 1) := by decide +kernel
theorem dX4_sign_11 : decode cX4_sign 11 = .ok (.ifCond .ge 7, 3) := by decide +kernel
theorem dX4_sign_14 : decode cX4_sign 14 = .ok (.iconst (-1), 1) := by decide +kernel
theorem dX4_sign_15 : decode cX4_sign 15 = .ok (.goto 4, 3) := by decide +kernel
theorem dX4_sign_18 : decode cX4_sign 18 = .ok (.iconst 0, 1) := by decide +kernel
theorem dX4_sign_19 : decode cX4_sign 19 = .ok (.ireturn, 1) := by decide +kernel
theorem dX4_endsCross_0 : decode cX4_endsCross 0 = .ok (.aload_n 0, 1) := by decide +kernel
theorem dX4_endsCross_1 : decode cX4_endsCross 1 = .ok (.iload_n 1, 1) := by decide +kernel
theorem dX4_endsCross_2 : decode cX4_endsCross 2 = .ok (.aload_n 2, 1) := by decide +kernel
theorem dX4_endsCross_3 : decode cX4_endsCross 3 = .ok (.iload_n 3, 1) := by decide +kernel
theorem dX4_endsCross_4 : decode cX4_endsCross 4 = .ok (.invokestatic 59, 3) := by decide +kernel
theorem dX4_endsCross_7 : decode cX4_endsCross 7 = .ok (.ifCond .eq 17, 3) := by decide +kernel
theorem dX4_endsCross_10 : decode cX4_endsCross 10 = .ok (.aload_n 2, 1) := by decide +kernel
theorem dX4_endsCross_11 : decode cX4_endsCross 11 = .ok (.iload_n 3, 1) := by decide +kernel
theorem dX4_endsCross_12 : decode cX4_endsCross 12 = .ok (.aload_n 0, 1) := by decide +kernel
theorem dX4_endsCross_13 : decode cX4_endsCross 13 = .ok (.iload_n 1, 1) := by decide +kernel
theorem dX4_endsCross_14 : decode cX4_endsCross 14 = .ok (.invokestatic 59, 3) := by decide +kernel
theorem dX4_endsCross_17 : decode cX4_endsCross 17 = .ok (.ifCond .eq 7, 3) := by decide +kernel
theorem dX4_endsCross_20 : decode cX4_endsCross 20 = .ok (.iconst 1, 1) := by decide +kernel
theorem dX4_endsCross_21 : decode cX4_endsCross 21 = .ok (.goto 4, 3) := by decide +kernel
theorem dX4_endsCross_24 : decode cX4_endsCross 24 = .ok (.iconst 0, 1) := by decide +kernel
theorem dX4_endsCross_25 : decode cX4_endsCross 25 = .ok (.ireturn, 1) := by decide +kernel
theorem dX4_endsBeside_0 : decode cX4_endsBeside 0 = .ok (.aload_n 0, 1) := by decide +kernel
theorem dX4_endsBeside_1 : decode cX4_endsBeside 1 = .ok (.iload_n 1, 1) := by decide +kernel
theorem dX4_endsBeside_2 : decode cX4_endsBeside 2 = .ok (.aload_n 0, 1) := by decide +kernel
theorem dX4_endsBeside_3 : decode cX4_endsBeside 3 = .ok (.iload_n 1, 1) := by decide +kernel
theorem dX4_endsBeside_4 : decode cX4_endsBeside 4 = .ok (.aload_n 2, 1) := by decide +kernel
theorem dX4_endsBeside_5 : decode cX4_endsBeside 5 = .ok (.iload_n 3, 1) := by decide +kernel
theorem dX4_endsBeside_6 : decode cX4_endsBeside 6 = .ok (.iconst 0, 1) := by decide +kernel
theorem dX4_endsBeside_7 : decode cX4_endsBeside 7 = .ok (.invokestatic 43, 3) := by decide +kernel
theorem dX4_endsBeside_10 : decode cX4_endsBeside 10 = .ok (.invokestatic 47, 3) := by decide +kernel
theorem dX4_endsBeside_13 : decode cX4_endsBeside 13 = .ok (.istore 4, 2) := by decide +kernel
theorem dX4_endsBeside_15 : decode cX4_endsBeside 15 = .ok (.aload_n 0, 1) := by decide +kernel
theorem dX4_endsBeside_16 : decode cX4_endsBeside 16 = .ok (.iload_n 1, 1) := by decide +kernel
theorem dX4_endsBeside_17 : decode cX4_endsBeside 17 = .ok (.aload_n 0, 1) := by decide +kernel
theorem dX4_endsBeside_18 : decode cX4_endsBeside 18 = .ok (.iload_n 1, 1) := by decide +kernel
theorem dX4_endsBeside_19 : decode cX4_endsBeside 19 = .ok (.aload_n 2, 1) := by decide +kernel
theorem dX4_endsBeside_20 : decode cX4_endsBeside 20 = .ok (.iload_n 3, 1) := by decide +kernel
theorem dX4_endsBeside_21 : decode cX4_endsBeside 21 = .ok (.iconst 3, 1) := by decide +kernel
theorem dX4_endsBeside_22 : decode cX4_endsBeside 22 = .ok (.invokestatic 43, 3) := by decide +kernel
theorem dX4_endsBeside_25 : decode cX4_endsBeside 25 = .ok (.invokestatic 47, 3) := by decide +kernel
theorem dX4_endsBeside_28 : decode cX4_endsBeside 28 = .ok (.istore 5, 2) := by decide +kernel
theorem dX4_endsBeside_30 : decode cX4_endsBeside 30 = .ok (.iload 4, 2) := by decide +kernel
theorem dX4_endsBeside_32 : decode cX4_endsBeside 32 = .ok (.iload 5, 2) := by decide +kernel
theorem dX4_endsBeside_34 : decode cX4_endsBeside 34 = .ok (.imul, 1) := by decide +kernel
theorem dX4_endsBeside_35 : decode cX4_endsBeside 35 = .ok (.ifCond .ge 7, 3) := by decide +kernel
theorem dX4_endsBeside_38 : decode cX4_endsBeside 38 = .ok (.iconst 1, 1) := by decide +kernel
theorem dX4_endsBeside_39 : decode cX4_endsBeside 39 = .ok (.goto 4, 3) := by decide +kernel
theorem dX4_endsBeside_42 : decode cX4_endsBeside 42 = .ok (.iconst 0, 1) := by decide +kernel
theorem dX4_endsBeside_43 : decode cX4_endsBeside 43 = .ok (.ireturn, 1) := by decide +kernel
theorem dX5_init_0 : decode cX5_init 0 = .ok (.aload_n 0, 1) := by decide +kernel
theorem dX5_init_1 : decode cX5_init 1 = .ok (.invokespecial 3, 3) := by decide +kernel
theorem dX5_init_4 : decode cX5_init 4 = .ok (.aload_n 0, 1) := by decide +kernel
theorem dX5_init_5 : decode cX5_init 5 = .ok (.sipush 130, 3) := by decide +kernel
theorem dX5_init_8 : decode cX5_init 8 = .ok (.newarray .int, 2) := by decide +kernel
theorem dX5_init_10 : decode cX5_init 10 = .ok (.putfield 9, 3) := by decide +kernel
theorem dX5_init_13 : decode cX5_init 13 = .ok (.aload_n 0, 1) := by decide +kernel
theorem dX5_init_14 : decode cX5_init 14 = .ok (.iconst 0, 1) := by decide +kernel
theorem dX5_init_15 : decode cX5_init 15 = .ok (.putfield 15, 3) := by decide +kernel
theorem dX5_init_18 : decode cX5_init 18 = .ok (.aload_n 0, 1) := by decide +kernel
theorem dX5_init_19 : decode cX5_init 19 = .ok (.bipush 32, 2) := by decide +kernel
theorem dX5_init_21 : decode cX5_init 21 = .ok (.newarray .int, 2) := by decide +kernel
theorem dX5_init_23 : decode cX5_init 23 = .ok (.putfield 19, 3) := by decide +kernel
theorem dX5_init_26 : decode cX5_init 26 = .ok (.aload_n 0, 1) := by decide +kernel
theorem dX5_init_27 : decode cX5_init 27 = .ok (.iconst 0, 1) := by decide +kernel
theorem dX5_init_28 : decode cX5_init 28 = .ok (.putfield 22, 3) := by decide +kernel
theorem dX5_init_31 : decode cX5_init 31 = .ok (.aload_n 0, 1) := by decide +kernel
theorem dX5_init_32 : decode cX5_init 32 = .ok (.iconst (-1), 1) := by decide +kernel
theorem dX5_init_33 : decode cX5_init 33 = .ok (.putfield 25, 3) := by decide +kernel
theorem dX5_init_36 : decode cX5_init 36 = .ok (.aload_n 0, 1) := by decide +kernel
theorem dX5_init_37 : decode cX5_init 37 = .ok (.iconst 0, 1) := by decide +kernel
theorem dX5_init_38 : decode cX5_init 38 = .ok (.putfield 28, 3) := by decide +kernel
theorem dX5_init_41 : decode cX5_init 41 = .ok (.return_, 1) := by decide +kernel
theorem dX5_adds_0 : decode cX5_adds 0 = .ok (.aload_n 0, 1) := by decide +kernel
theorem dX5_adds_1 : decode cX5_adds 1 = .ok (.getfield 15, 3) := by decide +kernel
theorem dX5_adds_4 : decode cX5_adds 4 = .ok (.sipush 130, 3) := by decide +kernel
theorem dX5_adds_7 : decode cX5_adds 7 = .ok (.if_icmp .ge 23, 3) := by decide +kernel
theorem dX5_adds_10 : decode cX5_adds 10 = .ok (.aload_n 0, 1) := by decide +kernel
theorem dX5_adds_11 : decode cX5_adds 11 = .ok (.getfield 9, 3) := by decide +kernel
theorem dX5_adds_14 : decode cX5_adds 14 = .ok (.aload_n 0, 1) := by decide +kernel
theorem dX5_adds_15 : decode cX5_adds 15 = .ok (.getfield 15, 3) := by decide +kernel
theorem dX5_adds_18 : decode cX5_adds 18 = .ok (.iload_n 1, 1) := by decide +kernel
theorem dX5_adds_19 : decode cX5_adds 19 = .ok (.iastore, 1) := by decide +kernel
theorem dX5_adds_20 : decode cX5_adds 20 = .ok (.aload_n 0, 1) := by decide +kernel
theorem dX5_adds_21 : decode cX5_adds 21 = .ok (.dup, 1) := by decide +kernel
theorem dX5_adds_22 : decode cX5_adds 22 = .ok (.getfield 15, 3) := by decide +kernel
theorem dX5_adds_25 : decode cX5_adds 25 = .ok (.iconst 1, 1) := by decide +kernel
theorem dX5_adds_26 : decode cX5_adds 26 = .ok (.iadd, 1) := by decide +kernel
theorem dX5_adds_27 : decode cX5_adds 27 = .ok (.putfield 15, 3) := by decide +kernel
theorem dX5_adds_30 : decode cX5_adds 30 = .ok (.aload_n 0, 1) := by decide +kernel
theorem dX5_adds_31 : decode cX5_adds 31 = .ok (.getfield 15, 3) := by decide +kernel
theorem dX5_adds_34 : decode cX5_adds 34 = .ok (.ireturn, 1) := by decide +kernel
theorem dX5_empties_0 : decode cX5_empties 0 = .ok (.aload_n 0, 1) := by decide +kernel
theorem dX5_empties_1 : decode cX5_empties 1 = .ok (.getfield 15, 3) := by decide +kernel
theorem dX5_empties_4 : decode cX5_empties 4 = .ok (.istore_n 1, 1) := by decide +kernel
theorem dX5_empties_5 : decode cX5_empties 5 = .ok (.aload_n 0, 1) := by decide +kernel
theorem dX5_empties_6 : decode cX5_empties 6 = .ok (.iconst 0, 1) := by decide +kernel
theorem dX5_empties_7 : decode cX5_empties 7 = .ok (.putfield 15, 3) := by decide +kernel
theorem dX5_empties_10 : decode cX5_empties 10 = .ok (.iload_n 1, 1) := by decide +kernel
theorem dX5_empties_11 : decode cX5_empties 11 = .ok (.ireturn, 1) := by decide +kernel
theorem dX5_findFault_0 : decode cX5_findFault 0 = .ok (.aload_n 0, 1) := by decide +kernel
theorem dX5_findFault_1 : decode cX5_findFault 1 = .ok (.iconst 0, 1) := by decide +kernel
theorem dX5_findFault_2 : decode cX5_findFault 2 = .ok (.putfield 22, 3) := by decide +kernel
theorem dX5_findFault_5 : decode cX5_findFault 5 = .ok (.aload_n 0, 1) := by decide +kernel
theorem dX5_findFault_6 : decode cX5_findFault 6 = .ok (.iconst (-1), 1) := by decide +kernel
theorem dX5_findFault_7 : decode cX5_findFault 7 = .ok (.putfield 25, 3) := by decide +kernel
theorem dX5_findFault_10 : decode cX5_findFault 10 = .ok (.aload_n 0, 1) := by decide +kernel
theorem dX5_findFault_11 : decode cX5_findFault 11 = .ok (.iconst 0, 1) := by decide +kernel
theorem dX5_findFault_12 : decode cX5_findFault 12 = .ok (.putfield 28, 3) := by decide +kernel
theorem dX5_findFault_15 : decode cX5_findFault 15 = .ok (.iconst 0, 1) := by decide +kernel
theorem dX5_findFault_16 : decode cX5_findFault 16 = .ok (.istore_n 1, 1) := by decide +kernel
theorem dX5_findFault_17 : decode cX5_findFault 17 = .ok (.iload_n 1, 1) := by decide +kernel
theorem dX5_findFault_18 : decode cX5_findFault 18 = .ok (.aload_n 0, 1) := by decide +kernel
theorem dX5_findFault_19 : decode cX5_findFault 19 = .ok (.getfield 15, 3) := by decide +kernel
theorem dX5_findFault_22 : decode cX5_findFault 22 = .ok (.if_icmp .ge 30, 3) := by decide +kernel
theorem dX5_findFault_25 : decode cX5_findFault 25 = .ok (.aload_n 0, 1) := by decide +kernel
theorem dX5_findFault_26 : decode cX5_findFault 26 = .ok (.getfield 9, 3) := by decide +kernel
theorem dX5_findFault_29 : decode cX5_findFault 29 = .ok (.iload_n 1, 1) := by decide +kernel
theorem dX5_findFault_30 : decode cX5_findFault 30 = .ok (.iaload, 1) := by decide +kernel
theorem dX5_findFault_31 : decode cX5_findFault 31 = .ok (.bipush 32, 2) := by decide +kernel
theorem dX5_findFault_33 : decode cX5_findFault 33 = .ok (.if_icmp .eq 13, 3) := by decide +kernel
theorem dX5_findFault_36 : decode cX5_findFault 36 = .ok (.aload_n 0, 1) := by decide +kernel
theorem dX5_findFault_37 : decode cX5_findFault 37 = .ok (.iload_n 1, 1) := by decide +kernel
theorem dX5_findFault_38 : decode cX5_findFault 38 = .ok (.invokevirtual 32, 3) := by decide +kernel
theorem dX5_findFault_41 : decode cX5_findFault 41 = .ok (.ifCond .ne 5, 3) := by decide +kernel
theorem dX5_findFault_44 : decode cX5_findFault 44 = .ok (.iload_n 1, 1) := by decide +kernel
theorem dX5_findFault_45 : decode cX5_findFault 45 = .ok (.ireturn, 1) := by decide +kernel
theorem dX5_findFault_46 : decode cX5_findFault 46 = .ok (.iinc 1 1, 3) := by decide +kernel
theorem dX5_findFault_49 : decode cX5_findFault 49 = .ok (.goto (-32), 3) := by decide +kernel
theorem dX5_findFault_52 : decode cX5_findFault 52 = .ok (.aload_n 0, 1) := by decide +kernel
theorem dX5_findFault_53 : decode cX5_findFault 53 = .ok (.getfield 25, 3) := by decide +kernel
theorem dX5_findFault_56 : decode cX5_findFault 56 = .ok (.iconst (-1), 1) := by decide +kernel
theorem dX5_findFault_57 : decode cX5_findFault 57 = .ok (.if_icmp .ne 7, 3) := by decide +kernel
theorem dX5_findFault_60 : decode cX5_findFault 60 = .ok (.iconst (-1), 1) := by decide +kernel
theorem dX5_findFault_61 : decode cX5_findFault 61 = .ok (.goto 7, 3) := by decide +kernel
theorem dX5_findFault_64 : decode cX5_findFault 64 = .ok (.aload_n 0, 1) := by decide +kernel
theorem dX5_findFault_65 : decode cX5_findFault 65 = .ok (.getfield 15, 3) := by decide +kernel
theorem dX5_findFault_68 : decode cX5_findFault 68 = .ok (.ireturn, 1) := by decide +kernel
theorem dX5_takesToken_0 : decode cX5_takesToken 0 = .ok (.aload_n 0, 1) := by decide +kernel
theorem dX5_takesToken_1 : decode cX5_takesToken 1 = .ok (.iload_n 1, 1) := by decide +kernel
theorem dX5_takesToken_2 : decode cX5_takesToken 2 = .ok (.invokevirtual 36, 3) := by decide +kernel
theorem dX5_takesToken_5 : decode cX5_takesToken 5 = .ok (.ifCond .eq 9, 3) := by decide +kernel
theorem dX5_takesToken_8 : decode cX5_takesToken 8 = .ok (.aload_n 0, 1) := by decide +kernel
theorem dX5_takesToken_9 : decode cX5_takesToken 9 = .ok (.iload_n 1, 1) := by decide +kernel
theorem dX5_takesToken_10 : decode cX5_takesToken 10 = .ok (.invokevirtual 39, 3) := by decide +kernel
theorem dX5_takesToken_13 : decode cX5_takesToken 13 = .ok (.ireturn, 1) := by decide +kernel
theorem dX5_takesToken_14 : decode cX5_takesToken 14 = .ok (.aload_n 0, 1) := by decide +kernel
theorem dX5_takesToken_15 : decode cX5_takesToken 15 = .ok (.getfield 9, 3) := by decide +kernel
theorem dX5_takesToken_18 : decode cX5_takesToken 18 = .ok (.iload_n 1, 1) := by decide +kernel
theorem dX5_takesToken_19 : decode cX5_takesToken 19 = .ok (.iaload, 1) := by decide +kernel
theorem dX5_takesToken_20 : decode cX5_takesToken 20 = .ok (.lookupswitch 51 #[(45, 41), (59, 46), (97, 36)], 36) := by decide +kernel
theorem dX5_takesToken_56 : decode cX5_takesToken 56 = .ok (.aload_n 0, 1) := by decide +kernel
theorem dX5_takesToken_57 : decode cX5_takesToken 57 = .ok (.invokevirtual 42, 3) := by decide +kernel
theorem dX5_takesToken_60 : decode cX5_takesToken 60 = .ok (.ireturn, 1) := by decide +kernel
theorem dX5_takesToken_61 : decode cX5_takesToken 61 = .ok (.aload_n 0, 1) := by decide +kernel
theorem dX5_takesToken_62 : decode cX5_takesToken 62 = .ok (.invokevirtual 46, 3) := by decide +kernel
theorem dX5_takesToken_65 : decode cX5_takesToken 65 = .ok (.ireturn, 1) := by decide +kernel
theorem dX5_takesToken_66 : decode cX5_takesToken 66 = .ok (.aload_n 0, 1) := by decide +kernel
theorem dX5_takesToken_67 : decode cX5_takesToken 67 = .ok (.invokevirtual 49, 3) := by decide +kernel
theorem dX5_takesToken_70 : decode cX5_takesToken 70 = .ok (.ireturn, 1) := by decide +kernel
theorem dX5_takesToken_71 : decode cX5_takesToken 71 = .ok (.iconst 0, 1) := by decide +kernel
theorem dX5_takesToken_72 : decode cX5_takesToken 72 = .ok (.ireturn, 1) := by decide +kernel
theorem dX5_opensItem_0 : decode cX5_opensItem 0 = .ok (.aload_n 0, 1) := by decide +kernel
theorem dX5_opensItem_1 : decode cX5_opensItem 1 = .ok (.getfield 25, 3) := by decide +kernel
theorem dX5_opensItem_4 : decode cX5_opensItem 4 = .ok (.iconst (-1), 1) := by decide +kernel
theorem dX5_opensItem_5 : decode cX5_opensItem 5 = .ok (.if_icmp .ne 11, 3) := by decide +kernel
theorem dX5_opensItem_8 : decode cX5_opensItem 8 = .ok (.aload_n 0, 1) := by decide +kernel
theorem dX5_opensItem_9 : decode cX5_opensItem 9 = .ok (.getfield 22, 3) := by decide +kernel
theorem dX5_opensItem_12 : decode cX5_opensItem 12 = .ok (.iconst 4, 1) := by decide +kernel
theorem dX5_opensItem_13 : decode cX5_opensItem 13 = .ok (.if_icmp .lt 5, 3) := by decide +kernel
theorem dX5_opensItem_16 : decode cX5_opensItem 16 = .ok (.iconst 0, 1) := by decide +kernel
theorem dX5_opensItem_17 : decode cX5_opensItem 17 = .ok (.ireturn, 1) := by decide +kernel
theorem dX5_opensItem_18 : decode cX5_opensItem 18 = .ok (.aload_n 0, 1) := by decide +kernel
theorem dX5_opensItem_19 : decode cX5_opensItem 19 = .ok (.iconst 0, 1) := by decide +kernel
theorem dX5_opensItem_20 : decode cX5_opensItem 20 = .ok (.putfield 25, 3) := by decide +kernel
theorem dX5_opensItem_23 : decode cX5_opensItem 23 = .ok (.iconst 1, 1) := by decide +kernel
theorem dX5_opensItem_24 : decode cX5_opensItem 24 = .ok (.ireturn, 1) := by decide +kernel
theorem dX5_takesMinus_0 : decode cX5_takesMinus 0 = .ok (.aload_n 0, 1) := by decide +kernel
theorem dX5_takesMinus_1 : decode cX5_takesMinus 1 = .ok (.invokevirtual 52, 3) := by decide +kernel
theorem dX5_takesMinus_4 : decode cX5_takesMinus 4 = .ok (.ifCond .eq 10, 3) := by decide +kernel
theorem dX5_takesMinus_7 : decode cX5_takesMinus 7 = .ok (.aload_n 0, 1) := by decide +kernel
theorem dX5_takesMinus_8 : decode cX5_takesMinus 8 = .ok (.getfield 28, 3) := by decide +kernel
theorem dX5_takesMinus_11 : decode cX5_takesMinus 11 = .ok (.ifCond .eq 5, 3) := by decide +kernel
theorem dX5_takesMinus_14 : decode cX5_takesMinus 14 = .ok (.iconst 0, 1) := by decide +kernel
theorem dX5_takesMinus_15 : decode cX5_takesMinus 15 = .ok (.ireturn, 1) := by decide +kernel
theorem dX5_takesMinus_16 : decode cX5_takesMinus 16 = .ok (.aload_n 0, 1) := by decide +kernel
theorem dX5_takesMinus_17 : decode cX5_takesMinus 17 = .ok (.iconst 1, 1) := by decide +kernel
theorem dX5_takesMinus_18 : decode cX5_takesMinus 18 = .ok (.putfield 28, 3) := by decide +kernel
theorem dX5_takesMinus_21 : decode cX5_takesMinus 21 = .ok (.iconst 1, 1) := by decide +kernel
theorem dX5_takesMinus_22 : decode cX5_takesMinus 22 = .ok (.ireturn, 1) := by decide +kernel
theorem dX5_takesNumber_0 : decode cX5_takesNumber 0 = .ok (.aload_n 0, 1) := by decide +kernel
theorem dX5_takesNumber_1 : decode cX5_takesNumber 1 = .ok (.invokevirtual 52, 3) := by decide +kernel
theorem dX5_takesNumber_4 : decode cX5_takesNumber 4 = .ok (.ifCond .eq 13, 3) := by decide +kernel
theorem dX5_takesNumber_7 : decode cX5_takesNumber 7 = .ok (.aload_n 0, 1) := by decide +kernel
theorem dX5_takesNumber_8 : decode cX5_takesNumber 8 = .ok (.iload_n 1, 1) := by decide +kernel
theorem dX5_takesNumber_9 : decode cX5_takesNumber 9 = .ok (.iconst 1, 1) := by decide +kernel
theorem dX5_takesNumber_10 : decode cX5_takesNumber 10 = .ok (.iadd, 1) := by decide +kernel
theorem dX5_takesNumber_11 : decode cX5_takesNumber 11 = .ok (.invokevirtual 36, 3) := by decide +kernel
theorem dX5_takesNumber_14 : decode cX5_takesNumber 14 = .ok (.ifCond .eq 5, 3) := by decide +kernel
theorem dX5_takesNumber_17 : decode cX5_takesNumber 17 = .ok (.iconst 0, 1) := by decide +kernel
theorem dX5_takesNumber_18 : decode cX5_takesNumber 18 = .ok (.ireturn, 1) := by decide +kernel
theorem dX5_takesNumber_19 : decode cX5_takesNumber 19 = .ok (.aload_n 0, 1) := by decide +kernel
theorem dX5_takesNumber_20 : decode cX5_takesNumber 20 = .ok (.getfield 9, 3) := by decide +kernel
theorem dX5_takesNumber_23 : decode cX5_takesNumber 23 = .ok (.iload_n 1, 1) := by decide +kernel
theorem dX5_takesNumber_24 : decode cX5_takesNumber 24 = .ok (.iaload, 1) := by decide +kernel
theorem dX5_takesNumber_25 : decode cX5_takesNumber 25 = .ok (.bipush 48, 2) := by decide +kernel
theorem dX5_takesNumber_27 : decode cX5_takesNumber 27 = .ok (.isub, 1) := by decide +kernel
theorem dX5_takesNumber_28 : decode cX5_takesNumber 28 = .ok (.istore_n 2, 1) := by decide +kernel
theorem dX5_takesNumber_29 : decode cX5_takesNumber 29 = .ok (.aload_n 0, 1) := by decide +kernel
theorem dX5_takesNumber_30 : decode cX5_takesNumber 30 = .ok (.getfield 19, 3) := by decide +kernel
theorem dX5_takesNumber_33 : decode cX5_takesNumber 33 = .ok (.aload_n 0, 1) := by decide +kernel
theorem dX5_takesNumber_34 : decode cX5_takesNumber 34 = .ok (.getfield 22, 3) := by decide +kernel
theorem dX5_takesNumber_37 : decode cX5_takesNumber 37 = .ok (.bipush 8, 2) := by decide +kernel
theorem dX5_takesNumber_39 : decode cX5_takesNumber 39 = .ok (.imul, 1) := by decide +kernel
theorem dX5_takesNumber_40 : decode cX5_takesNumber 40 = .ok (.aload_n 0, 1) := by decide +kernel
theorem dX5_takesNumber_41 : decode cX5_takesNumber 41 = .ok (.getfield 25, 3) := by decide +kernel
theorem dX5_takesNumber_44 : decode cX5_takesNumber 44 = .ok (.iadd, 1) := by decide +kernel
theorem dX5_takesNumber_45 : decode cX5_takesNumber 45 = .ok (.aload_n 0, 1) := by decide +kernel
theorem dX5_takesNumber_46 : decode cX5_takesNumber 46 = .ok (.getfield 28, 3) := by decide +kernel
theorem dX5_takesNumber_49 : decode cX5_takesNumber 49 = .ok (.ifCond .eq 8, 3) := by decide +kernel
theorem dX5_takesNumber_52 : decode cX5_takesNumber 52 = .ok (.iload_n 2, 1) := by decide +kernel
theorem dX5_takesNumber_53 : decode cX5_takesNumber 53 = .ok (.ineg, 1) := by decide +kernel
theorem dX5_takesNumber_54 : decode cX5_takesNumber 54 = .ok (.goto 4, 3) := by decide +kernel
theorem dX5_takesNumber_57 : decode cX5_takesNumber 57 = .ok (.iload_n 2, 1) := by decide +kernel
theorem dX5_takesNumber_58 : decode cX5_takesNumber 58 = .ok (.iastore, 1) := by decide +kernel
theorem dX5_takesNumber_59 : decode cX5_takesNumber 59 = .ok (.aload_n 0, 1) := by decide +kernel
theorem dX5_takesNumber_60 : decode cX5_takesNumber 60 = .ok (.dup, 1) := by decide +kernel
theorem dX5_takesNumber_61 : decode cX5_takesNumber 61 = .ok (.getfield 25, 3) := by decide +kernel
theorem dX5_takesNumber_64 : decode cX5_takesNumber 64 = .ok (.iconst 1, 1) := by decide +kernel
theorem dX5_takesNumber_65 : decode cX5_takesNumber 65 = .ok (.iadd, 1) := by decide +kernel
theorem dX5_takesNumber_66 : decode cX5_takesNumber 66 = .ok (.putfield 25, 3) := by decide +kernel
theorem dX5_takesNumber_69 : decode cX5_takesNumber 69 = .ok (.aload_n 0, 1) := by decide +kernel
theorem dX5_takesNumber_70 : decode cX5_takesNumber 70 = .ok (.iconst 0, 1) := by decide +kernel
theorem dX5_takesNumber_71 : decode cX5_takesNumber 71 = .ok (.putfield 28, 3) := by decide +kernel
theorem dX5_takesNumber_74 : decode cX5_takesNumber 74 = .ok (.iconst 1, 1) := by decide +kernel
theorem dX5_takesNumber_75 : decode cX5_takesNumber 75 = .ok (.ireturn, 1) := by decide +kernel
theorem dX5_endsItem_0 : decode cX5_endsItem 0 = .ok (.aload_n 0, 1) := by decide +kernel
theorem dX5_endsItem_1 : decode cX5_endsItem 1 = .ok (.getfield 25, 3) := by decide +kernel
theorem dX5_endsItem_4 : decode cX5_endsItem 4 = .ok (.bipush 8, 2) := by decide +kernel
theorem dX5_endsItem_6 : decode cX5_endsItem 6 = .ok (.if_icmp .eq 5, 3) := by decide +kernel
theorem dX5_endsItem_9 : decode cX5_endsItem 9 = .ok (.iconst 0, 1) := by decide +kernel
theorem dX5_endsItem_10 : decode cX5_endsItem 10 = .ok (.ireturn, 1) := by decide +kernel
theorem dX5_endsItem_11 : decode cX5_endsItem 11 = .ok (.aload_n 0, 1) := by decide +kernel
theorem dX5_endsItem_12 : decode cX5_endsItem 12 = .ok (.dup, 1) := by decide +kernel
theorem dX5_endsItem_13 : decode cX5_endsItem 13 = .ok (.getfield 22, 3) := by decide +kernel
theorem dX5_endsItem_16 : decode cX5_endsItem 16 = .ok (.iconst 1, 1) := by decide +kernel
theorem dX5_endsItem_17 : decode cX5_endsItem 17 = .ok (.iadd, 1) := by decide +kernel
theorem dX5_endsItem_18 : decode cX5_endsItem 18 = .ok (.putfield 22, 3) := by decide +kernel
theorem dX5_endsItem_21 : decode cX5_endsItem 21 = .ok (.aload_n 0, 1) := by decide +kernel
theorem dX5_endsItem_22 : decode cX5_endsItem 22 = .ok (.iconst (-1), 1) := by decide +kernel
theorem dX5_endsItem_23 : decode cX5_endsItem 23 = .ok (.putfield 25, 3) := by decide +kernel
theorem dX5_endsItem_26 : decode cX5_endsItem 26 = .ok (.iconst 1, 1) := by decide +kernel
theorem dX5_endsItem_27 : decode cX5_endsItem 27 = .ok (.ireturn, 1) := by decide +kernel
theorem dX5_wantsNumber_0 : decode cX5_wantsNumber 0 = .ok (.aload_n 0, 1) := by decide +kernel
theorem dX5_wantsNumber_1 : decode cX5_wantsNumber 1 = .ok (.getfield 22, 3) := by decide +kernel
theorem dX5_wantsNumber_4 : decode cX5_wantsNumber 4 = .ok (.iconst 4, 1) := by decide +kernel
theorem dX5_wantsNumber_5 : decode cX5_wantsNumber 5 = .ok (.if_icmp .ge 23, 3) := by decide +kernel
theorem dX5_wantsNumber_8 : decode cX5_wantsNumber 8 = .ok (.aload_n 0, 1) := by decide +kernel
theorem dX5_wantsNumber_9 : decode cX5_wantsNumber 9 = .ok (.getfield 25, 3) := by decide +kernel
theorem dX5_wantsNumber_12 : decode cX5_wantsNumber 12 = .ok (.ifCond .lt 16, 3) := by decide +kernel
theorem dX5_wantsNumber_15 : decode cX5_wantsNumber 15 = .ok (.aload_n 0, 1) := by decide +kernel
theorem dX5_wantsNumber_16 : decode cX5_wantsNumber 16 = .ok (.getfield 25, 3) := by decide +kernel
theorem dX5_wantsNumber_19 : decode cX5_wantsNumber 19 = .ok (.bipush 8, 2) := by decide +kernel
theorem dX5_wantsNumber_21 : decode cX5_wantsNumber 21 = .ok (.if_icmp .ge 7, 3) := by decide +kernel
theorem dX5_wantsNumber_24 : decode cX5_wantsNumber 24 = .ok (.iconst 1, 1) := by decide +kernel
theorem dX5_wantsNumber_25 : decode cX5_wantsNumber 25 = .ok (.goto 4, 3) := by decide +kernel
theorem dX5_wantsNumber_28 : decode cX5_wantsNumber 28 = .ok (.iconst 0, 1) := by decide +kernel
theorem dX5_wantsNumber_29 : decode cX5_wantsNumber 29 = .ok (.ireturn, 1) := by decide +kernel
theorem dX5_isFigure_0 : decode cX5_isFigure 0 = .ok (.iload_n 1, 1) := by decide +kernel
theorem dX5_isFigure_1 : decode cX5_isFigure 1 = .ok (.aload_n 0, 1) := by decide +kernel
theorem dX5_isFigure_2 : decode cX5_isFigure 2 = .ok (.getfield 15, 3) := by decide +kernel
theorem dX5_isFigure_5 : decode cX5_isFigure 5 = .ok (.if_icmp .ge 29, 3) := by decide +kernel
theorem dX5_isFigure_8 : decode cX5_isFigure 8 = .ok (.aload_n 0, 1) := by decide +kernel
theorem dX5_isFigure_9 : decode cX5_isFigure 9 = .ok (.getfield 9, 3) := by decide +kernel
theorem dX5_isFigure_12 : decode cX5_isFigure 12 = .ok (.iload_n 1, 1) := by decide +kernel
theorem dX5_isFigure_13 : decode cX5_isFigure 13 = .ok (.iaload, 1) := by decide +kernel
theorem dX5_isFigure_14 : decode cX5_isFigure 14 = .ok (.bipush 48, 2) := by decide +kernel
theorem dX5_isFigure_16 : decode cX5_isFigure 16 = .ok (.if_icmp .lt 18, 3) := by decide +kernel
theorem dX5_isFigure_19 : decode cX5_isFigure 19 = .ok (.aload_n 0, 1) := by decide +kernel
theorem dX5_isFigure_20 : decode cX5_isFigure 20 = .ok (.getfield 9, 3) := by decide +kernel
theorem dX5_isFigure_23 : decode cX5_isFigure 23 = .ok (.iload_n 1, 1) := by decide +kernel
theorem dX5_isFigure_24 : decode cX5_isFigure 24 = .ok (.iaload, 1) := by decide +kernel
theorem dX5_isFigure_25 : decode cX5_isFigure 25 = .ok (.bipush 57, 2) := by decide +kernel
theorem dX5_isFigure_27 : decode cX5_isFigure 27 = .ok (.if_icmp .gt 7, 3) := by decide +kernel
theorem dX5_isFigure_30 : decode cX5_isFigure 30 = .ok (.iconst 1, 1) := by decide +kernel
theorem dX5_isFigure_31 : decode cX5_isFigure 31 = .ok (.goto 4, 3) := by decide +kernel
theorem dX5_isFigure_34 : decode cX5_isFigure 34 = .ok (.iconst 0, 1) := by decide +kernel
theorem dX5_isFigure_35 : decode cX5_isFigure 35 = .ok (.ireturn, 1) := by decide +kernel
theorem dX6_init_0 : decode cX6_init 0 = .ok (.aload_n 0, 1) := by decide +kernel
theorem dX6_init_1 : decode cX6_init 1 = .ok (.invokespecial 3, 3) := by decide +kernel
theorem dX6_init_4 : decode cX6_init 4 = .ok (.aload_n 0, 1) := by decide +kernel
theorem dX6_init_5 : decode cX6_init 5 = .ok (.bipush 6, 2) := by decide +kernel
theorem dX6_init_7 : decode cX6_init 7 = .ok (.newarray .int, 2) := by decide +kernel
theorem dX6_init_9 : decode cX6_init 9 = .ok (.putfield 9, 3) := by decide +kernel
theorem dX6_init_12 : decode cX6_init 12 = .ok (.aload_n 0, 1) := by decide +kernel
theorem dX6_init_13 : decode cX6_init 13 = .ok (.bipush 6, 2) := by decide +kernel
theorem dX6_init_15 : decode cX6_init 15 = .ok (.newarray .int, 2) := by decide +kernel
theorem dX6_init_17 : decode cX6_init 17 = .ok (.putfield 15, 3) := by decide +kernel
theorem dX6_init_20 : decode cX6_init 20 = .ok (.aload_n 0, 1) := by decide +kernel
theorem dX6_init_21 : decode cX6_init 21 = .ok (.iconst 0, 1) := by decide +kernel
theorem dX6_init_22 : decode cX6_init 22 = .ok (.putfield 18, 3) := by decide +kernel
theorem dX6_init_25 : decode cX6_init 25 = .ok (.return_, 1) := by decide +kernel
theorem dX6_adds_0 : decode cX6_adds 0 = .ok (.aload_n 0, 1) := by decide +kernel
theorem dX6_adds_1 : decode cX6_adds 1 = .ok (.getfield 18, 3) := by decide +kernel
theorem dX6_adds_4 : decode cX6_adds 4 = .ok (.bipush 6, 2) := by decide +kernel
theorem dX6_adds_6 : decode cX6_adds 6 = .ok (.if_icmp .ge 33, 3) := by decide +kernel
theorem dX6_adds_9 : decode cX6_adds 9 = .ok (.aload_n 0, 1) := by decide +kernel
theorem dX6_adds_10 : decode cX6_adds 10 = .ok (.getfield 9, 3) := by decide +kernel
theorem dX6_adds_13 : decode cX6_adds 13 = .ok (.aload_n 0, 1) := by decide +kernel
theorem dX6_adds_14 : decode cX6_adds 14 = .ok (.getfield 18, 3) := by decide +kernel
theorem dX6_adds_17 : decode cX6_adds 17 = .ok (.iload_n 1, 1) := by decide +kernel
theorem dX6_adds_18 : decode cX6_adds 18 = .ok (.iastore, 1) := by decide +kernel
theorem dX6_adds_19 : decode cX6_adds 19 = .ok (.aload_n 0, 1) := by decide +kernel
theorem dX6_adds_20 : decode cX6_adds 20 = .ok (.getfield 15, 3) := by decide +kernel
theorem dX6_adds_23 : decode cX6_adds 23 = .ok (.aload_n 0, 1) := by decide +kernel
theorem dX6_adds_24 : decode cX6_adds 24 = .ok (.getfield 18, 3) := by decide +kernel
theorem dX6_adds_27 : decode cX6_adds 27 = .ok (.iload_n 2, 1) := by decide +kernel
theorem dX6_adds_28 : decode cX6_adds 28 = .ok (.iastore, 1) := by decide +kernel
theorem dX6_adds_29 : decode cX6_adds 29 = .ok (.aload_n 0, 1) := by decide +kernel
theorem dX6_adds_30 : decode cX6_adds 30 = .ok (.dup, 1) := by decide +kernel
theorem dX6_adds_31 : decode cX6_adds 31 = .ok (.getfield 18, 3) := by decide +kernel
theorem dX6_adds_34 : decode cX6_adds 34 = .ok (.iconst 1, 1) := by decide +kernel
theorem dX6_adds_35 : decode cX6_adds 35 = .ok (.iadd, 1) := by decide +kernel
theorem dX6_adds_36 : decode cX6_adds 36 = .ok (.putfield 18, 3) := by decide +kernel
theorem dX6_adds_39 : decode cX6_adds 39 = .ok (.aload_n 0, 1) := by decide +kernel
theorem dX6_adds_40 : decode cX6_adds 40 = .ok (.getfield 18, 3) := by decide +kernel
theorem dX6_adds_43 : decode cX6_adds 43 = .ok (.ireturn, 1) := by decide +kernel
theorem dX7_init_0 : decode cX7_init 0 = .ok (.aload_n 0, 1) := by decide +kernel
theorem dX7_init_1 : decode cX7_init 1 = .ok (.invokespecial 1, 3) := by decide +kernel
theorem dX7_init_4 : decode cX7_init 4 = .ok (.aload_n 0, 1) := by decide +kernel
theorem dX7_init_5 : decode cX7_init 5 = .ok (.new 7, 3) := by decide +kernel
theorem dX7_init_8 : decode cX7_init 8 = .ok (.dup, 1) := by decide +kernel
theorem dX7_init_9 : decode cX7_init 9 = .ok (.invokespecial 9, 3) := by decide +kernel
theorem dX7_init_12 : decode cX7_init 12 = .ok (.putfield 10, 3) := by decide +kernel
theorem dX7_init_15 : decode cX7_init 15 = .ok (.aload_n 0, 1) := by decide +kernel
theorem dX7_init_16 : decode cX7_init 16 = .ok (.iconst 4, 1) := by decide +kernel
theorem dX7_init_17 : decode cX7_init 17 = .ok (.anewarray 16, 3) := by decide +kernel
theorem dX7_init_20 : decode cX7_init 20 = .ok (.putfield 18, 3) := by decide +kernel
theorem dX7_init_23 : decode cX7_init 23 = .ok (.iconst 0, 1) := by decide +kernel
theorem dX7_init_24 : decode cX7_init 24 = .ok (.istore_n 1, 1) := by decide +kernel
theorem dX7_init_25 : decode cX7_init 25 = .ok (.iload_n 1, 1) := by decide +kernel
theorem dX7_init_26 : decode cX7_init 26 = .ok (.iconst 4, 1) := by decide +kernel
theorem dX7_init_27 : decode cX7_init 27 = .ok (.if_icmp .ge 22, 3) := by decide +kernel
theorem dX7_init_30 : decode cX7_init 30 = .ok (.aload_n 0, 1) := by decide +kernel
theorem dX7_init_31 : decode cX7_init 31 = .ok (.getfield 18, 3) := by decide +kernel
theorem dX7_init_34 : decode cX7_init 34 = .ok (.iload_n 1, 1) := by decide +kernel
theorem dX7_init_35 : decode cX7_init 35 = .ok (.new 16, 3) := by decide +kernel
theorem dX7_init_38 : decode cX7_init 38 = .ok (.dup, 1) := by decide +kernel
theorem dX7_init_39 : decode cX7_init 39 = .ok (.invokespecial 22, 3) := by decide +kernel
theorem dX7_init_42 : decode cX7_init 42 = .ok (.aastore, 1) := by decide +kernel
theorem dX7_init_43 : decode cX7_init 43 = .ok (.iinc 1 1, 3) := by decide +kernel
theorem dX7_init_46 : decode cX7_init 46 = .ok (.goto (-21), 3) := by decide +kernel
theorem dX7_init_49 : decode cX7_init 49 = .ok (.aload_n 0, 1) := by decide +kernel
theorem dX7_init_50 : decode cX7_init 50 = .ok (.iconst 0, 1) := by decide +kernel
theorem dX7_init_51 : decode cX7_init 51 = .ok (.putfield 23, 3) := by decide +kernel
theorem dX7_init_54 : decode cX7_init 54 = .ok (.aload_n 0, 1) := by decide +kernel
theorem dX7_init_55 : decode cX7_init 55 = .ok (.new 27, 3) := by decide +kernel
theorem dX7_init_58 : decode cX7_init 58 = .ok (.dup, 1) := by decide +kernel
theorem dX7_init_59 : decode cX7_init 59 = .ok (.invokespecial 29, 3) := by decide +kernel
theorem dX7_init_62 : decode cX7_init 62 = .ok (.putfield 30, 3) := by decide +kernel
theorem dX7_init_65 : decode cX7_init 65 = .ok (.aload_n 0, 1) := by decide +kernel
theorem dX7_init_66 : decode cX7_init 66 = .ok (.new 34, 3) := by decide +kernel
theorem dX7_init_69 : decode cX7_init 69 = .ok (.dup, 1) := by decide +kernel
theorem dX7_init_70 : decode cX7_init 70 = .ok (.invokespecial 36, 3) := by decide +kernel
theorem dX7_init_73 : decode cX7_init 73 = .ok (.putfield 37, 3) := by decide +kernel
theorem dX7_init_76 : decode cX7_init 76 = .ok (.aload_n 0, 1) := by decide +kernel
theorem dX7_init_77 : decode cX7_init 77 = .ok (.new 41, 3) := by decide +kernel
theorem dX7_init_80 : decode cX7_init 80 = .ok (.dup, 1) := by decide +kernel
theorem dX7_init_81 : decode cX7_init 81 = .ok (.invokespecial 43, 3) := by decide +kernel
theorem dX7_init_84 : decode cX7_init 84 = .ok (.putfield 44, 3) := by decide +kernel
theorem dX7_init_87 : decode cX7_init 87 = .ok (.aload_n 0, 1) := by decide +kernel
theorem dX7_init_88 : decode cX7_init 88 = .ok (.new 48, 3) := by decide +kernel
theorem dX7_init_91 : decode cX7_init 91 = .ok (.dup, 1) := by decide +kernel
theorem dX7_init_92 : decode cX7_init 92 = .ok (.invokespecial 50, 3) := by decide +kernel
theorem dX7_init_95 : decode cX7_init 95 = .ok (.putfield 51, 3) := by decide +kernel
theorem dX7_init_98 : decode cX7_init 98 = .ok (.return_, 1) := by decide +kernel
theorem dX7_type_0 : decode cX7_type 0 = .ok (.iload_n 1, 1) := by decide +kernel
theorem dX7_type_1 : decode cX7_type 1 = .ok (.ifCond .lt 10, 3) := by decide +kernel
theorem dX7_type_4 : decode cX7_type 4 = .ok (.iload_n 1, 1) := by decide +kernel
theorem dX7_type_5 : decode cX7_type 5 = .ok (.sipush 255, 3) := by decide +kernel
theorem dX7_type_8 : decode cX7_type 8 = .ok (.if_icmp .le 5, 3) := by decide +kernel
theorem dX7_type_11 : decode cX7_type 11 = .ok (.iconst (-1), 1) := by decide +kernel
theorem dX7_type_12 : decode cX7_type 12 = .ok (.ireturn, 1) := by decide +kernel
theorem dX7_type_13 : decode cX7_type 13 = .ok (.aload_n 0, 1) := by decide +kernel
theorem dX7_type_14 : decode cX7_type 14 = .ok (.getfield 10, 3) := by decide +kernel
theorem dX7_type_17 : decode cX7_type 17 = .ok (.getfield 55, 3) := by decide +kernel
theorem dX7_type_20 : decode cX7_type 20 = .ok (.sipush 130, 3) := by decide +kernel
theorem dX7_type_23 : decode cX7_type 23 = .ok (.if_icmp .lt 6, 3) := by decide +kernel
theorem dX7_type_26 : decode cX7_type 26 = .ok (.bipush (-3), 2) := by decide +kernel
theorem dX7_type_28 : decode cX7_type 28 = .ok (.ireturn, 1) := by decide +kernel
theorem dX7_type_29 : decode cX7_type 29 = .ok (.aload_n 0, 1) := by decide +kernel
theorem dX7_type_30 : decode cX7_type 30 = .ok (.getfield 10, 3) := by decide +kernel
theorem dX7_type_33 : decode cX7_type 33 = .ok (.iload_n 1, 1) := by decide +kernel
theorem dX7_type_34 : decode cX7_type 34 = .ok (.invokevirtual 58, 3) := by decide +kernel
theorem dX7_type_37 : decode cX7_type 37 = .ok (.ireturn, 1) := by decide +kernel
theorem dX7_clear_0 : decode cX7_clear 0 = .ok (.aload_n 0, 1) := by decide +kernel
theorem dX7_clear_1 : decode cX7_clear 1 = .ok (.getfield 10, 3) := by decide +kernel
theorem dX7_clear_4 : decode cX7_clear 4 = .ok (.invokevirtual 62, 3) := by decide +kernel
theorem dX7_clear_7 : decode cX7_clear 7 = .ok (.ireturn, 1) := by decide +kernel
theorem dX7_arcs_0 : decode cX7_arcs 0 = .ok (.aload_n 0, 1) := by decide +kernel
theorem dX7_arcs_1 : decode cX7_arcs 1 = .ok (.getfield 10, 3) := by decide +kernel
theorem dX7_arcs_4 : decode cX7_arcs 4 = .ok (.invokevirtual 66, 3) := by decide +kernel
theorem dX7_arcs_7 : decode cX7_arcs 7 = .ok (.istore_n 1, 1) := by decide +kernel
theorem dX7_arcs_8 : decode cX7_arcs 8 = .ok (.iload_n 1, 1) := by decide +kernel
theorem dX7_arcs_9 : decode cX7_arcs 9 = .ok (.iconst (-1), 1) := by decide +kernel
theorem dX7_arcs_10 : decode cX7_arcs 10 = .ok (.if_icmp .eq 8, 3) := by decide +kernel
theorem dX7_arcs_13 : decode cX7_arcs 13 = .ok (.bipush (-10), 2) := by decide +kernel
theorem dX7_arcs_15 : decode cX7_arcs 15 = .ok (.iload_n 1, 1) := by decide +kernel
theorem dX7_arcs_16 : decode cX7_arcs 16 = .ok (.isub, 1) := by decide +kernel
theorem dX7_arcs_17 : decode cX7_arcs 17 = .ok (.ireturn, 1) := by decide +kernel
theorem dX7_arcs_18 : decode cX7_arcs 18 = .ok (.aload_n 0, 1) := by decide +kernel
theorem dX7_arcs_19 : decode cX7_arcs 19 = .ok (.getfield 10, 3) := by decide +kernel
theorem dX7_arcs_22 : decode cX7_arcs 22 = .ok (.invokevirtual 62, 3) := by decide +kernel
theorem dX7_arcs_25 : decode cX7_arcs 25 = .ok (.pop, 1) := by decide +kernel
theorem dX7_arcs_26 : decode cX7_arcs 26 = .ok (.aload_n 0, 1) := by decide +kernel
theorem dX7_arcs_27 : decode cX7_arcs 27 = .ok (.aload_n 0, 1) := by decide +kernel
theorem dX7_arcs_28 : decode cX7_arcs 28 = .ok (.getfield 10, 3) := by decide +kernel
theorem dX7_arcs_31 : decode cX7_arcs 31 = .ok (.getfield 69, 3) := by decide +kernel
theorem dX7_arcs_34 : decode cX7_arcs 34 = .ok (.putfield 23, 3) := by decide +kernel
theorem dX7_arcs_37 : decode cX7_arcs 37 = .ok (.iconst 0, 1) := by decide +kernel
theorem dX7_arcs_38 : decode cX7_arcs 38 = .ok (.istore_n 2, 1) := by decide +kernel
theorem dX7_arcs_39 : decode cX7_arcs 39 = .ok (.iload_n 2, 1) := by decide +kernel
theorem dX7_arcs_40 : decode cX7_arcs 40 = .ok (.aload_n 0, 1) := by decide +kernel
theorem dX7_arcs_41 : decode cX7_arcs 41 = .ok (.getfield 23, 3) := by decide +kernel
theorem dX7_arcs_44 : decode cX7_arcs 44 = .ok (.if_icmp .ge 29, 3) := by decide +kernel
theorem dX7_arcs_47 : decode cX7_arcs 47 = .ok (.aload_n 0, 1) := by decide +kernel
theorem dX7_arcs_48 : decode cX7_arcs 48 = .ok (.getfield 18, 3) := by decide +kernel
theorem dX7_arcs_51 : decode cX7_arcs 51 = .ok (.iload_n 2, 1) := by decide +kernel
theorem dX7_arcs_52 : decode cX7_arcs 52 = .ok (.aaload, 1) := by decide +kernel
theorem dX7_arcs_53 : decode cX7_arcs 53 = .ok (.aload_n 0, 1) := by decide +kernel
theorem dX7_arcs_54 : decode cX7_arcs 54 = .ok (.getfield 10, 3) := by decide +kernel
theorem dX7_arcs_57 : decode cX7_arcs 57 = .ok (.getfield 72, 3) := by decide +kernel
theorem dX7_arcs_60 : decode cX7_arcs 60 = .ok (.iload_n 2, 1) := by decide +kernel
theorem dX7_arcs_61 : decode cX7_arcs 61 = .ok (.bipush 8, 2) := by decide +kernel
theorem dX7_arcs_63 : decode cX7_arcs 63 = .ok (.imul, 1) := by decide +kernel
theorem dX7_arcs_64 : decode cX7_arcs 64 = .ok (.invokevirtual 76, 3) := by decide +kernel
theorem dX7_arcs_67 : decode cX7_arcs 67 = .ok (.iinc 2 1, 3) := by decide +kernel
theorem dX7_arcs_70 : decode cX7_arcs 70 = .ok (.goto (-31), 3) := by decide +kernel
theorem dX7_arcs_73 : decode cX7_arcs 73 = .ok (.aload_n 0, 1) := by decide +kernel
theorem dX7_arcs_74 : decode cX7_arcs 74 = .ok (.getfield 30, 3) := by decide +kernel
theorem dX7_arcs_77 : decode cX7_arcs 77 = .ok (.iconst 0, 1) := by decide +kernel
theorem dX7_arcs_78 : decode cX7_arcs 78 = .ok (.putfield 80, 3) := by decide +kernel
theorem dX7_arcs_81 : decode cX7_arcs 81 = .ok (.aload_n 0, 1) := by decide +kernel
theorem dX7_arcs_82 : decode cX7_arcs 82 = .ok (.getfield 44, 3) := by decide +kernel
theorem dX7_arcs_85 : decode cX7_arcs 85 = .ok (.iconst 0, 1) := by decide +kernel
theorem dX7_arcs_86 : decode cX7_arcs 86 = .ok (.putfield 81, 3) := by decide +kernel
theorem dX7_arcs_89 : decode cX7_arcs 89 = .ok (.aload_n 0, 1) := by decide +kernel
theorem dX7_arcs_90 : decode cX7_arcs 90 = .ok (.getfield 37, 3) := by decide +kernel
theorem dX7_arcs_93 : decode cX7_arcs 93 = .ok (.invokevirtual 82, 3) := by decide +kernel
theorem dX7_arcs_96 : decode cX7_arcs 96 = .ok (.aload_n 0, 1) := by decide +kernel
theorem dX7_arcs_97 : decode cX7_arcs 97 = .ok (.getfield 51, 3) := by decide +kernel
theorem dX7_arcs_100 : decode cX7_arcs 100 = .ok (.invokevirtual 85, 3) := by decide +kernel
theorem dX7_arcs_103 : decode cX7_arcs 103 = .ok (.aload_n 0, 1) := by decide +kernel
theorem dX7_arcs_104 : decode cX7_arcs 104 = .ok (.getfield 23, 3) := by decide +kernel
theorem dX7_arcs_107 : decode cX7_arcs 107 = .ok (.ireturn, 1) := by decide +kernel
theorem dX7_point_0 : decode cX7_point 0 = .ok (.aload_n 0, 1) := by decide +kernel
theorem dX7_point_1 : decode cX7_point 1 = .ok (.iload_n 1, 1) := by decide +kernel
theorem dX7_point_2 : decode cX7_point 2 = .ok (.invokevirtual 88, 3) := by decide +kernel
theorem dX7_point_5 : decode cX7_point 5 = .ok (.ifCond .eq 25, 3) := by decide +kernel
theorem dX7_point_8 : decode cX7_point 8 = .ok (.iload_n 2, 1) := by decide +kernel
theorem dX7_point_9 : decode cX7_point 9 = .ok (.invokestatic 92, 3) := by decide +kernel
theorem dX7_point_12 : decode cX7_point 12 = .ok (.ifCond .eq 18, 3) := by decide +kernel
theorem dX7_point_15 : decode cX7_point 15 = .ok (.iload_n 3, 1) := by decide +kernel
theorem dX7_point_16 : decode cX7_point 16 = .ok (.invokestatic 95, 3) := by decide +kernel
theorem dX7_point_19 : decode cX7_point 19 = .ok (.ifCond .eq 11, 3) := by decide +kernel
theorem dX7_point_22 : decode cX7_point 22 = .ok (.iload 4, 2) := by decide +kernel
theorem dX7_point_24 : decode cX7_point 24 = .ok (.invokestatic 98, 3) := by decide +kernel
theorem dX7_point_27 : decode cX7_point 27 = .ok (.ifCond .ne 6, 3) := by decide +kernel
theorem dX7_point_30 : decode cX7_point 30 = .ok (.ldc 101, 2) := by decide +kernel
theorem dX7_point_32 : decode cX7_point 32 = .ok (.ireturn, 1) := by decide +kernel
theorem dX7_point_33 : decode cX7_point 33 = .ok (.aload_n 0, 1) := by decide +kernel
theorem dX7_point_34 : decode cX7_point 34 = .ok (.getfield 18, 3) := by decide +kernel
theorem dX7_point_37 : decode cX7_point 37 = .ok (.iload_n 1, 1) := by decide +kernel
theorem dX7_point_38 : decode cX7_point 38 = .ok (.aaload, 1) := by decide +kernel
theorem dX7_point_39 : decode cX7_point 39 = .ok (.iload_n 2, 1) := by decide +kernel
theorem dX7_point_40 : decode cX7_point 40 = .ok (.iload_n 3, 1) := by decide +kernel
theorem dX7_point_41 : decode cX7_point 41 = .ok (.iload 4, 2) := by decide +kernel
theorem dX7_point_43 : decode cX7_point 43 = .ok (.invokevirtual 102, 3) := by decide +kernel
theorem dX7_point_46 : decode cX7_point 46 = .ok (.ireturn, 1) := by decide +kernel
theorem dX7_moves_0 : decode cX7_moves 0 = .ok (.aload_n 0, 1) := by decide +kernel
theorem dX7_moves_1 : decode cX7_moves 1 = .ok (.iload_n 1, 1) := by decide +kernel
theorem dX7_moves_2 : decode cX7_moves 2 = .ok (.invokevirtual 88, 3) := by decide +kernel
theorem dX7_moves_5 : decode cX7_moves 5 = .ok (.ifCond .eq 27, 3) := by decide +kernel
theorem dX7_moves_8 : decode cX7_moves 8 = .ok (.iload_n 2, 1) := by decide +kernel
theorem dX7_moves_9 : decode cX7_moves 9 = .ok (.invokestatic 95, 3) := by decide +kernel
theorem dX7_moves_12 : decode cX7_moves 12 = .ok (.ifCond .eq 20, 3) := by decide +kernel
theorem dX7_moves_15 : decode cX7_moves 15 = .ok (.iload_n 3, 1) := by decide +kernel
theorem dX7_moves_16 : decode cX7_moves 16 = .ok (.i2l, 1) := by decide +kernel
theorem dX7_moves_17 : decode cX7_moves 17 = .ok (.invokestatic 106, 3) := by decide +kernel
theorem dX7_moves_20 : decode cX7_moves 20 = .ok (.ifCond .eq 12, 3) := by decide +kernel
theorem dX7_moves_23 : decode cX7_moves 23 = .ok (.iload 4, 2) := by decide +kernel
theorem dX7_moves_25 : decode cX7_moves 25 = .ok (.i2l, 1) := by decide +kernel
theorem dX7_moves_26 : decode cX7_moves 26 = .ok (.invokestatic 106, 3) := by decide +kernel
theorem dX7_moves_29 : decode cX7_moves 29 = .ok (.ifCond .ne 5, 3) := by decide +kernel
theorem dX7_moves_32 : decode cX7_moves 32 = .ok (.iconst (-1), 1) := by decide +kernel
theorem dX7_moves_33 : decode cX7_moves 33 = .ok (.ireturn, 1) := by decide +kernel
theorem dX7_moves_34 : decode cX7_moves 34 = .ok (.aload_n 0, 1) := by decide +kernel
theorem dX7_moves_35 : decode cX7_moves 35 = .ok (.getfield 18, 3) := by decide +kernel
theorem dX7_moves_38 : decode cX7_moves 38 = .ok (.iload_n 1, 1) := by decide +kernel
theorem dX7_moves_39 : decode cX7_moves 39 = .ok (.aaload, 1) := by decide +kernel
theorem dX7_moves_40 : decode cX7_moves 40 = .ok (.astore 5, 2) := by decide +kernel
theorem dX7_moves_42 : decode cX7_moves 42 = .ok (.aload 5, 2) := by decide +kernel
theorem dX7_moves_44 : decode cX7_moves 44 = .ok (.getfield 110, 3) := by decide +kernel
theorem dX7_moves_47 : decode cX7_moves 47 = .ok (.iconst 2, 1) := by decide +kernel
theorem dX7_moves_48 : decode cX7_moves 48 = .ok (.iload_n 2, 1) := by decide +kernel
theorem dX7_moves_49 : decode cX7_moves 49 = .ok (.imul, 1) := by decide +kernel
theorem dX7_moves_50 : decode cX7_moves 50 = .ok (.iaload, 1) := by decide +kernel
theorem dX7_moves_51 : decode cX7_moves 51 = .ok (.iload_n 3, 1) := by decide +kernel
theorem dX7_moves_52 : decode cX7_moves 52 = .ok (.if_icmp .ne 22, 3) := by decide +kernel
theorem dX7_moves_55 : decode cX7_moves 55 = .ok (.aload 5, 2) := by decide +kernel
theorem dX7_moves_57 : decode cX7_moves 57 = .ok (.getfield 110, 3) := by decide +kernel
theorem dX7_moves_60 : decode cX7_moves 60 = .ok (.iconst 2, 1) := by decide +kernel
theorem dX7_moves_61 : decode cX7_moves 61 = .ok (.iload_n 2, 1) := by decide +kernel
theorem dX7_moves_62 : decode cX7_moves 62 = .ok (.imul, 1) := by decide +kernel
theorem dX7_moves_63 : decode cX7_moves 63 = .ok (.iconst 1, 1) := by decide +kernel
theorem dX7_moves_64 : decode cX7_moves 64 = .ok (.iadd, 1) := by decide +kernel
theorem dX7_moves_65 : decode cX7_moves 65 = .ok (.iaload, 1) := by decide +kernel
theorem dX7_moves_66 : decode cX7_moves 66 = .ok (.iload 4, 2) := by decide +kernel
theorem dX7_moves_68 : decode cX7_moves 68 = .ok (.if_icmp .ne 6, 3) := by decide +kernel
theorem dX7_moves_71 : decode cX7_moves 71 = .ok (.bipush (-2), 2) := by decide +kernel
theorem dX7_moves_73 : decode cX7_moves 73 = .ok (.ireturn, 1) := by decide +kernel
theorem dX7_moves_74 : decode cX7_moves 74 = .ok (.aload_n 0, 1) := by decide +kernel
theorem dX7_moves_75 : decode cX7_moves 75 = .ok (.iload_n 1, 1) := by decide +kernel
theorem dX7_moves_76 : decode cX7_moves 76 = .ok (.invokevirtual 113, 3) := by decide +kernel
theorem dX7_moves_79 : decode cX7_moves 79 = .ok (.aload 5, 2) := by decide +kernel
theorem dX7_moves_81 : decode cX7_moves 81 = .ok (.getfield 110, 3) := by decide +kernel
theorem dX7_moves_84 : decode cX7_moves 84 = .ok (.iconst 2, 1) := by decide +kernel
theorem dX7_moves_85 : decode cX7_moves 85 = .ok (.iload_n 2, 1) := by decide +kernel
theorem dX7_moves_86 : decode cX7_moves 86 = .ok (.imul, 1) := by decide +kernel
theorem dX7_moves_87 : decode cX7_moves 87 = .ok (.iload_n 3, 1) := by decide +kernel
theorem dX7_moves_88 : decode cX7_moves 88 = .ok (.iastore, 1) := by decide +kernel
theorem dX7_moves_89 : decode cX7_moves 89 = .ok (.aload 5, 2) := by decide +kernel
theorem dX7_moves_91 : decode cX7_moves 91 = .ok (.getfield 110, 3) := by decide +kernel
theorem dX7_moves_94 : decode cX7_moves 94 = .ok (.iconst 2, 1) := by decide +kernel
theorem dX7_moves_95 : decode cX7_moves 95 = .ok (.iload_n 2, 1) := by decide +kernel
theorem dX7_moves_96 : decode cX7_moves 96 = .ok (.imul, 1) := by decide +kernel
theorem dX7_moves_97 : decode cX7_moves 97 = .ok (.iconst 1, 1) := by decide +kernel
theorem dX7_moves_98 : decode cX7_moves 98 = .ok (.iadd, 1) := by decide +kernel
theorem dX7_moves_99 : decode cX7_moves 99 = .ok (.iload 4, 2) := by decide +kernel
theorem dX7_moves_101 : decode cX7_moves 101 = .ok (.iastore, 1) := by decide +kernel
theorem dX7_moves_102 : decode cX7_moves 102 = .ok (.aload 5, 2) := by decide +kernel
theorem dX7_moves_104 : decode cX7_moves 104 = .ok (.invokevirtual 117, 3) := by decide +kernel
theorem dX7_moves_107 : decode cX7_moves 107 = .ok (.iconst 1, 1) := by decide +kernel
theorem dX7_moves_108 : decode cX7_moves 108 = .ok (.ireturn, 1) := by decide +kernel
theorem dX7_shifts_0 : decode cX7_shifts 0 = .ok (.aload_n 0, 1) := by decide +kernel
theorem dX7_shifts_1 : decode cX7_shifts 1 = .ok (.iload_n 1, 1) := by decide +kernel
theorem dX7_shifts_2 : decode cX7_shifts 2 = .ok (.invokevirtual 88, 3) := by decide +kernel
theorem dX7_shifts_5 : decode cX7_shifts 5 = .ok (.ifCond .eq 17, 3) := by decide +kernel
theorem dX7_shifts_8 : decode cX7_shifts 8 = .ok (.aload_n 0, 1) := by decide +kernel
theorem dX7_shifts_9 : decode cX7_shifts 9 = .ok (.getfield 18, 3) := by decide +kernel
theorem dX7_shifts_12 : decode cX7_shifts 12 = .ok (.iload_n 1, 1) := by decide +kernel
theorem dX7_shifts_13 : decode cX7_shifts 13 = .ok (.aaload, 1) := by decide +kernel
theorem dX7_shifts_14 : decode cX7_shifts 14 = .ok (.iload_n 2, 1) := by decide +kernel
theorem dX7_shifts_15 : decode cX7_shifts 15 = .ok (.iload_n 3, 1) := by decide +kernel
theorem dX7_shifts_16 : decode cX7_shifts 16 = .ok (.invokevirtual 120, 3) := by decide +kernel
theorem dX7_shifts_19 : decode cX7_shifts 19 = .ok (.ifCond .ne 5, 3) := by decide +kernel
theorem dX7_shifts_22 : decode cX7_shifts 22 = .ok (.iconst (-1), 1) := by decide +kernel
theorem dX7_shifts_23 : decode cX7_shifts 23 = .ok (.ireturn, 1) := by decide +kernel
theorem dX7_shifts_24 : decode cX7_shifts 24 = .ok (.iload_n 2, 1) := by decide +kernel
theorem dX7_shifts_25 : decode cX7_shifts 25 = .ok (.ifCond .ne 10, 3) := by decide +kernel
theorem dX7_shifts_28 : decode cX7_shifts 28 = .ok (.iload_n 3, 1) := by decide +kernel
theorem dX7_shifts_29 : decode cX7_shifts 29 = .ok (.ifCond .ne 6, 3) := by decide +kernel
theorem dX7_shifts_32 : decode cX7_shifts 32 = .ok (.bipush (-2), 2) := by decide +kernel
theorem dX7_shifts_34 : decode cX7_shifts 34 = .ok (.ireturn, 1) := by decide +kernel
theorem dX7_shifts_35 : decode cX7_shifts 35 = .ok (.aload_n 0, 1) := by decide +kernel
theorem dX7_shifts_36 : decode cX7_shifts 36 = .ok (.iload_n 1, 1) := by decide +kernel
theorem dX7_shifts_37 : decode cX7_shifts 37 = .ok (.invokevirtual 113, 3) := by decide +kernel
theorem dX7_shifts_40 : decode cX7_shifts 40 = .ok (.aload_n 0, 1) := by decide +kernel
theorem dX7_shifts_41 : decode cX7_shifts 41 = .ok (.getfield 18, 3) := by decide +kernel
theorem dX7_shifts_44 : decode cX7_shifts 44 = .ok (.iload_n 1, 1) := by decide +kernel
theorem dX7_shifts_45 : decode cX7_shifts 45 = .ok (.aaload, 1) := by decide +kernel
theorem dX7_shifts_46 : decode cX7_shifts 46 = .ok (.iload_n 2, 1) := by decide +kernel
theorem dX7_shifts_47 : decode cX7_shifts 47 = .ok (.iload_n 3, 1) := by decide +kernel
theorem dX7_shifts_48 : decode cX7_shifts 48 = .ok (.invokevirtual 124, 3) := by decide +kernel
theorem dX7_shifts_51 : decode cX7_shifts 51 = .ok (.iconst 1, 1) := by decide +kernel
theorem dX7_shifts_52 : decode cX7_shifts 52 = .ok (.ireturn, 1) := by decide +kernel
theorem dX7_reverses_0 : decode cX7_reverses 0 = .ok (.aload_n 0, 1) := by decide +kernel
theorem dX7_reverses_1 : decode cX7_reverses 1 = .ok (.iload_n 1, 1) := by decide +kernel
theorem dX7_reverses_2 : decode cX7_reverses 2 = .ok (.invokevirtual 88, 3) := by decide +kernel
theorem dX7_reverses_5 : decode cX7_reverses 5 = .ok (.ifCond .ne 5, 3) := by decide +kernel
theorem dX7_reverses_8 : decode cX7_reverses 8 = .ok (.iconst (-1), 1) := by decide +kernel
theorem dX7_reverses_9 : decode cX7_reverses 9 = .ok (.ireturn, 1) := by decide +kernel
theorem dX7_reverses_10 : decode cX7_reverses 10 = .ok (.aload_n 0, 1) := by decide +kernel
theorem dX7_reverses_11 : decode cX7_reverses 11 = .ok (.iload_n 1, 1) := by decide +kernel
theorem dX7_reverses_12 : decode cX7_reverses 12 = .ok (.invokevirtual 113, 3) := by decide +kernel
theorem dX7_reverses_15 : decode cX7_reverses 15 = .ok (.aload_n 0, 1) := by decide +kernel
theorem dX7_reverses_16 : decode cX7_reverses 16 = .ok (.getfield 18, 3) := by decide +kernel
theorem dX7_reverses_19 : decode cX7_reverses 19 = .ok (.iload_n 1, 1) := by decide +kernel
theorem dX7_reverses_20 : decode cX7_reverses 20 = .ok (.aaload, 1) := by decide +kernel
theorem dX7_reverses_21 : decode cX7_reverses 21 = .ok (.invokevirtual 128, 3) := by decide +kernel
theorem dX7_reverses_24 : decode cX7_reverses 24 = .ok (.iconst 1, 1) := by decide +kernel
theorem dX7_reverses_25 : decode cX7_reverses 25 = .ok (.ireturn, 1) := by decide +kernel
theorem dX7_undo_0 : decode cX7_undo 0 = .ok (.aload_n 0, 1) := by decide +kernel
theorem dX7_undo_1 : decode cX7_undo 1 = .ok (.getfield 30, 3) := by decide +kernel
theorem dX7_undo_4 : decode cX7_undo 4 = .ok (.getfield 80, 3) := by decide +kernel
theorem dX7_undo_7 : decode cX7_undo 7 = .ok (.ifCond .gt 6, 3) := by decide +kernel
theorem dX7_undo_10 : decode cX7_undo 10 = .ok (.bipush (-2), 2) := by decide +kernel
theorem dX7_undo_12 : decode cX7_undo 12 = .ok (.ireturn, 1) := by decide +kernel
theorem dX7_undo_13 : decode cX7_undo 13 = .ok (.aload_n 0, 1) := by decide +kernel
theorem dX7_undo_14 : decode cX7_undo 14 = .ok (.getfield 30, 3) := by decide +kernel
theorem dX7_undo_17 : decode cX7_undo 17 = .ok (.getfield 80, 3) := by decide +kernel
theorem dX7_undo_20 : decode cX7_undo 20 = .ok (.iconst 1, 1) := by decide +kernel
theorem dX7_undo_21 : decode cX7_undo 21 = .ok (.isub, 1) := by decide +kernel
theorem dX7_undo_22 : decode cX7_undo 22 = .ok (.istore_n 1, 1) := by decide +kernel
theorem dX7_undo_23 : decode cX7_undo 23 = .ok (.aload_n 0, 1) := by decide +kernel
theorem dX7_undo_24 : decode cX7_undo 24 = .ok (.getfield 30, 3) := by decide +kernel
theorem dX7_undo_27 : decode cX7_undo 27 = .ok (.iload_n 1, 1) := by decide +kernel
theorem dX7_undo_28 : decode cX7_undo 28 = .ok (.putfield 80, 3) := by decide +kernel
theorem dX7_undo_31 : decode cX7_undo 31 = .ok (.aload_n 0, 1) := by decide +kernel
theorem dX7_undo_32 : decode cX7_undo 32 = .ok (.getfield 18, 3) := by decide +kernel
theorem dX7_undo_35 : decode cX7_undo 35 = .ok (.aload_n 0, 1) := by decide +kernel
theorem dX7_undo_36 : decode cX7_undo 36 = .ok (.getfield 30, 3) := by decide +kernel
theorem dX7_undo_39 : decode cX7_undo 39 = .ok (.getfield 131, 3) := by decide +kernel
theorem dX7_undo_42 : decode cX7_undo 42 = .ok (.iload_n 1, 1) := by decide +kernel
theorem dX7_undo_43 : decode cX7_undo 43 = .ok (.iaload, 1) := by decide +kernel
theorem dX7_undo_44 : decode cX7_undo 44 = .ok (.aaload, 1) := by decide +kernel
theorem dX7_undo_45 : decode cX7_undo 45 = .ok (.aload_n 0, 1) := by decide +kernel
theorem dX7_undo_46 : decode cX7_undo 46 = .ok (.getfield 30, 3) := by decide +kernel
theorem dX7_undo_49 : decode cX7_undo 49 = .ok (.getfield 134, 3) := by decide +kernel
theorem dX7_undo_52 : decode cX7_undo 52 = .ok (.iload_n 1, 1) := by decide +kernel
theorem dX7_undo_53 : decode cX7_undo 53 = .ok (.bipush 8, 2) := by decide +kernel
theorem dX7_undo_55 : decode cX7_undo 55 = .ok (.imul, 1) := by decide +kernel
theorem dX7_undo_56 : decode cX7_undo 56 = .ok (.invokevirtual 76, 3) := by decide +kernel
theorem dX7_undo_59 : decode cX7_undo 59 = .ok (.aload_n 0, 1) := by decide +kernel
theorem dX7_undo_60 : decode cX7_undo 60 = .ok (.getfield 51, 3) := by decide +kernel
theorem dX7_undo_63 : decode cX7_undo 63 = .ok (.invokevirtual 85, 3) := by decide +kernel
theorem dX7_undo_66 : decode cX7_undo 66 = .ok (.iload_n 1, 1) := by decide +kernel
theorem dX7_undo_67 : decode cX7_undo 67 = .ok (.ireturn, 1) := by decide +kernel
theorem dX7_apart_0 : decode cX7_apart 0 = .ok (.aload_n 0, 1) := by decide +kernel
theorem dX7_apart_1 : decode cX7_apart 1 = .ok (.iload_n 1, 1) := by decide +kernel
theorem dX7_apart_2 : decode cX7_apart 2 = .ok (.iload_n 3, 1) := by decide +kernel
theorem dX7_apart_3 : decode cX7_apart 3 = .ok (.invokevirtual 135, 3) := by decide +kernel
theorem dX7_apart_6 : decode cX7_apart 6 = .ok (.ifCond .eq 18, 3) := by decide +kernel
theorem dX7_apart_9 : decode cX7_apart 9 = .ok (.iload_n 2, 1) := by decide +kernel
theorem dX7_apart_10 : decode cX7_apart 10 = .ok (.invokestatic 92, 3) := by decide +kernel
theorem dX7_apart_13 : decode cX7_apart 13 = .ok (.ifCond .eq 11, 3) := by decide +kernel
theorem dX7_apart_16 : decode cX7_apart 16 = .ok (.iload 4, 2) := by decide +kernel
theorem dX7_apart_18 : decode cX7_apart 18 = .ok (.invokestatic 92, 3) := by decide +kernel
theorem dX7_apart_21 : decode cX7_apart 21 = .ok (.ifCond .ne 5, 3) := by decide +kernel
theorem dX7_apart_24 : decode cX7_apart 24 = .ok (.iconst (-1), 1) := by decide +kernel
theorem dX7_apart_25 : decode cX7_apart 25 = .ok (.ireturn, 1) := by decide +kernel
theorem dX7_apart_26 : decode cX7_apart 26 = .ok (.aload_n 0, 1) := by decide +kernel
theorem dX7_apart_27 : decode cX7_apart 27 = .ok (.getfield 18, 3) := by decide +kernel
theorem dX7_apart_30 : decode cX7_apart 30 = .ok (.iload_n 1, 1) := by decide +kernel
theorem dX7_apart_31 : decode cX7_apart 31 = .ok (.aaload, 1) := by decide +kernel
theorem dX7_apart_32 : decode cX7_apart 32 = .ok (.iload_n 2, 1) := by decide +kernel
theorem dX7_apart_33 : decode cX7_apart 33 = .ok (.aload_n 0, 1) := by decide +kernel
theorem dX7_apart_34 : decode cX7_apart 34 = .ok (.getfield 18, 3) := by decide +kernel
theorem dX7_apart_37 : decode cX7_apart 37 = .ok (.iload_n 3, 1) := by decide +kernel
theorem dX7_apart_38 : decode cX7_apart 38 = .ok (.aaload, 1) := by decide +kernel
theorem dX7_apart_39 : decode cX7_apart 39 = .ok (.iload 4, 2) := by decide +kernel
theorem dX7_apart_41 : decode cX7_apart 41 = .ok (.invokestatic 138, 3) := by decide +kernel
theorem dX7_apart_44 : decode cX7_apart 44 = .ok (.ireturn, 1) := by decide +kernel
theorem dX7_turn_0 : decode cX7_turn 0 = .ok (.aload_n 0, 1) := by decide +kernel
theorem dX7_turn_1 : decode cX7_turn 1 = .ok (.iload_n 1, 1) := by decide +kernel
theorem dX7_turn_2 : decode cX7_turn 2 = .ok (.iload_n 3, 1) := by decide +kernel
theorem dX7_turn_3 : decode cX7_turn 3 = .ok (.invokevirtual 135, 3) := by decide +kernel
theorem dX7_turn_6 : decode cX7_turn 6 = .ok (.ifCond .eq 18, 3) := by decide +kernel
theorem dX7_turn_9 : decode cX7_turn 9 = .ok (.iload_n 2, 1) := by decide +kernel
theorem dX7_turn_10 : decode cX7_turn 10 = .ok (.invokestatic 92, 3) := by decide +kernel
theorem dX7_turn_13 : decode cX7_turn 13 = .ok (.ifCond .eq 11, 3) := by decide +kernel
theorem dX7_turn_16 : decode cX7_turn 16 = .ok (.iload 4, 2) := by decide +kernel
theorem dX7_turn_18 : decode cX7_turn 18 = .ok (.invokestatic 92, 3) := by decide +kernel
theorem dX7_turn_21 : decode cX7_turn 21 = .ok (.ifCond .ne 5, 3) := by decide +kernel
theorem dX7_turn_24 : decode cX7_turn 24 = .ok (.iconst (-1), 1) := by decide +kernel
theorem dX7_turn_25 : decode cX7_turn 25 = .ok (.ireturn, 1) := by decide +kernel
theorem dX7_turn_26 : decode cX7_turn 26 = .ok (.aload_n 0, 1) := by decide +kernel
theorem dX7_turn_27 : decode cX7_turn 27 = .ok (.getfield 18, 3) := by decide +kernel
theorem dX7_turn_30 : decode cX7_turn 30 = .ok (.iload_n 1, 1) := by decide +kernel
theorem dX7_turn_31 : decode cX7_turn 31 = .ok (.aaload, 1) := by decide +kernel
theorem dX7_turn_32 : decode cX7_turn 32 = .ok (.iload_n 2, 1) := by decide +kernel
theorem dX7_turn_33 : decode cX7_turn 33 = .ok (.aload_n 0, 1) := by decide +kernel
theorem dX7_turn_34 : decode cX7_turn 34 = .ok (.getfield 18, 3) := by decide +kernel
theorem dX7_turn_37 : decode cX7_turn 37 = .ok (.iload_n 3, 1) := by decide +kernel
theorem dX7_turn_38 : decode cX7_turn 38 = .ok (.aaload, 1) := by decide +kernel
theorem dX7_turn_39 : decode cX7_turn 39 = .ok (.iload 4, 2) := by decide +kernel
theorem dX7_turn_41 : decode cX7_turn 41 = .ok (.invokestatic 144, 3) := by decide +kernel
theorem dX7_turn_44 : decode cX7_turn 44 = .ok (.istore 5, 2) := by decide +kernel
theorem dX7_turn_46 : decode cX7_turn 46 = .ok (.iload 5, 2) := by decide +kernel
theorem dX7_turn_48 : decode cX7_turn 48 = .ok (.ifCond .ne 5, 3) := by decide +kernel
theorem dX7_turn_51 : decode cX7_turn 51 = .ok (.iconst 0, 1) := by decide +kernel
theorem dX7_turn_52 : decode cX7_turn 52 = .ok (.ireturn, 1) := by decide +kernel
theorem dX7_turn_53 : decode cX7_turn 53 = .ok (.iload 5, 2) := by decide +kernel
theorem dX7_turn_55 : decode cX7_turn 55 = .ok (.ifCond .le 7, 3) := by decide +kernel
theorem dX7_turn_58 : decode cX7_turn 58 = .ok (.iconst 1, 1) := by decide +kernel
theorem dX7_turn_59 : decode cX7_turn 59 = .ok (.goto 4, 3) := by decide +kernel
theorem dX7_turn_62 : decode cX7_turn 62 = .ok (.iconst 2, 1) := by decide +kernel
theorem dX7_turn_63 : decode cX7_turn 63 = .ok (.istore 6, 2) := by decide +kernel
theorem dX7_turn_65 : decode cX7_turn 65 = .ok (.aload_n 0, 1) := by decide +kernel
theorem dX7_turn_66 : decode cX7_turn 66 = .ok (.getfield 18, 3) := by decide +kernel
theorem dX7_turn_69 : decode cX7_turn 69 = .ok (.iload_n 1, 1) := by decide +kernel
theorem dX7_turn_70 : decode cX7_turn 70 = .ok (.aaload, 1) := by decide +kernel
theorem dX7_turn_71 : decode cX7_turn 71 = .ok (.iload_n 2, 1) := by decide +kernel
theorem dX7_turn_72 : decode cX7_turn 72 = .ok (.aload_n 0, 1) := by decide +kernel
theorem dX7_turn_73 : decode cX7_turn 73 = .ok (.getfield 18, 3) := by decide +kernel
theorem dX7_turn_76 : decode cX7_turn 76 = .ok (.iload_n 3, 1) := by decide +kernel
theorem dX7_turn_77 : decode cX7_turn 77 = .ok (.aaload, 1) := by decide +kernel
theorem dX7_turn_78 : decode cX7_turn 78 = .ok (.iload 4, 2) := by decide +kernel
theorem dX7_turn_80 : decode cX7_turn 80 = .ok (.invokestatic 147, 3) := by decide +kernel
theorem dX7_turn_83 : decode cX7_turn 83 = .ok (.ifCond .eq 10, 3) := by decide +kernel
theorem dX7_turn_86 : decode cX7_turn 86 = .ok (.iload 6, 2) := by decide +kernel
theorem dX7_turn_88 : decode cX7_turn 88 = .ok (.iconst 2, 1) := by decide +kernel
theorem dX7_turn_89 : decode cX7_turn 89 = .ok (.iadd, 1) := by decide +kernel
theorem dX7_turn_90 : decode cX7_turn 90 = .ok (.goto 5, 3) := by decide +kernel
theorem dX7_turn_93 : decode cX7_turn 93 = .ok (.iload 6, 2) := by decide +kernel
theorem dX7_turn_95 : decode cX7_turn 95 = .ok (.ireturn, 1) := by decide +kernel
theorem dX7_bends_0 : decode cX7_bends 0 = .ok (.aload_n 0, 1) := by decide +kernel
theorem dX7_bends_1 : decode cX7_bends 1 = .ok (.iload_n 1, 1) := by decide +kernel
theorem dX7_bends_2 : decode cX7_bends 2 = .ok (.invokevirtual 88, 3) := by decide +kernel
theorem dX7_bends_5 : decode cX7_bends 5 = .ok (.ifCond .eq 10, 3) := by decide +kernel
theorem dX7_bends_8 : decode cX7_bends 8 = .ok (.iload_n 2, 1) := by decide +kernel
theorem dX7_bends_9 : decode cX7_bends 9 = .ok (.invokestatic 92, 3) := by decide +kernel
theorem dX7_bends_12 : decode cX7_bends 12 = .ok (.ifCond .ne 5, 3) := by decide +kernel
theorem dX7_bends_15 : decode cX7_bends 15 = .ok (.iconst (-1), 1) := by decide +kernel
theorem dX7_bends_16 : decode cX7_bends 16 = .ok (.ireturn, 1) := by decide +kernel
theorem dX7_bends_17 : decode cX7_bends 17 = .ok (.aload_n 0, 1) := by decide +kernel
theorem dX7_bends_18 : decode cX7_bends 18 = .ok (.getfield 18, 3) := by decide +kernel
theorem dX7_bends_21 : decode cX7_bends 21 = .ok (.iload_n 1, 1) := by decide +kernel
theorem dX7_bends_22 : decode cX7_bends 22 = .ok (.aaload, 1) := by decide +kernel
theorem dX7_bends_23 : decode cX7_bends 23 = .ok (.astore_n 3, 1) := by decide +kernel
theorem dX7_bends_24 : decode cX7_bends 24 = .ok (.aload_n 3, 1) := by decide +kernel
theorem dX7_bends_25 : decode cX7_bends 25 = .ok (.iload_n 2, 1) := by decide +kernel
theorem dX7_bends_26 : decode cX7_bends 26 = .ok (.iconst 0, 1) := by decide +kernel
theorem dX7_bends_27 : decode cX7_bends 27 = .ok (.aload_n 3, 1) := by decide +kernel
theorem dX7_bends_28 : decode cX7_bends 28 = .ok (.iload_n 2, 1) := by decide +kernel
theorem dX7_bends_29 : decode cX7_bends 29 = .ok (.iconst 1, 1) := by decide +kernel
theorem dX7_bends_30 : decode cX7_bends 30 = .ok (.invokestatic 151, 3) := by decide +kernel
theorem dX7_bends_33 : decode cX7_bends 33 = .ok (.lstore 4, 2) := by decide +kernel
theorem dX7_bends_35 : decode cX7_bends 35 = .ok (.aload_n 3, 1) := by decide +kernel
theorem dX7_bends_36 : decode cX7_bends 36 = .ok (.iload_n 2, 1) := by decide +kernel
theorem dX7_bends_37 : decode cX7_bends 37 = .ok (.iconst 1, 1) := by decide +kernel
theorem dX7_bends_38 : decode cX7_bends 38 = .ok (.aload_n 3, 1) := by decide +kernel
theorem dX7_bends_39 : decode cX7_bends 39 = .ok (.iload_n 2, 1) := by decide +kernel
theorem dX7_bends_40 : decode cX7_bends 40 = .ok (.iconst 2, 1) := by decide +kernel
theorem dX7_bends_41 : decode cX7_bends 41 = .ok (.invokestatic 151, 3) := by decide +kernel
theorem dX7_bends_44 : decode cX7_bends 44 = .ok (.lstore 6, 2) := by decide +kernel
theorem dX7_bends_46 : decode cX7_bends 46 = .ok (.lload 4, 2) := by decide +kernel
theorem dX7_bends_48 : decode cX7_bends 48 = .ok (.lload 6, 2) := by decide +kernel
theorem dX7_bends_50 : decode cX7_bends 50 = .ok (.invokestatic 155, 3) := by decide +kernel
theorem dX7_bends_53 : decode cX7_bends 53 = .ok (.lload 4, 2) := by decide +kernel
theorem dX7_bends_55 : decode cX7_bends 55 = .ok (.lload 6, 2) := by decide +kernel
theorem dX7_bends_57 : decode cX7_bends 57 = .ok (.invokestatic 161, 3) := by decide +kernel
theorem dX7_bends_60 : decode cX7_bends 60 = .ok (.invokestatic 164, 3) := by decide +kernel
theorem dX7_bends_63 : decode cX7_bends 63 = .ok (.ireturn, 1) := by decide +kernel
theorem dX7_goes_0 : decode cX7_goes 0 = .ok (.aload_n 0, 1) := by decide +kernel
theorem dX7_goes_1 : decode cX7_goes 1 = .ok (.iload_n 1, 1) := by decide +kernel
theorem dX7_goes_2 : decode cX7_goes 2 = .ok (.invokevirtual 88, 3) := by decide +kernel
theorem dX7_goes_5 : decode cX7_goes 5 = .ok (.ifCond .eq 17, 3) := by decide +kernel
theorem dX7_goes_8 : decode cX7_goes 8 = .ok (.iload_n 2, 1) := by decide +kernel
theorem dX7_goes_9 : decode cX7_goes 9 = .ok (.invokestatic 92, 3) := by decide +kernel
theorem dX7_goes_12 : decode cX7_goes 12 = .ok (.ifCond .eq 10, 3) := by decide +kernel
theorem dX7_goes_15 : decode cX7_goes 15 = .ok (.iload_n 3, 1) := by decide +kernel
theorem dX7_goes_16 : decode cX7_goes 16 = .ok (.invokestatic 98, 3) := by decide +kernel
theorem dX7_goes_19 : decode cX7_goes 19 = .ok (.ifCond .ne 5, 3) := by decide +kernel
theorem dX7_goes_22 : decode cX7_goes 22 = .ok (.iconst (-1), 1) := by decide +kernel
theorem dX7_goes_23 : decode cX7_goes 23 = .ok (.ireturn, 1) := by decide +kernel
theorem dX7_goes_24 : decode cX7_goes 24 = .ok (.aload_n 0, 1) := by decide +kernel
theorem dX7_goes_25 : decode cX7_goes 25 = .ok (.getfield 18, 3) := by decide +kernel
theorem dX7_goes_28 : decode cX7_goes 28 = .ok (.iload_n 1, 1) := by decide +kernel
theorem dX7_goes_29 : decode cX7_goes 29 = .ok (.aaload, 1) := by decide +kernel
theorem dX7_goes_30 : decode cX7_goes 30 = .ok (.iload_n 2, 1) := by decide +kernel
theorem dX7_goes_31 : decode cX7_goes 31 = .ok (.iconst 0, 1) := by decide +kernel
theorem dX7_goes_32 : decode cX7_goes 32 = .ok (.iload_n 3, 1) := by decide +kernel
theorem dX7_goes_33 : decode cX7_goes 33 = .ok (.invokevirtual 168, 3) := by decide +kernel
theorem dX7_goes_36 : decode cX7_goes 36 = .ok (.istore 4, 2) := by decide +kernel
theorem dX7_goes_38 : decode cX7_goes 38 = .ok (.iload 4, 2) := by decide +kernel
theorem dX7_goes_40 : decode cX7_goes 40 = .ok (.istore 5, 2) := by decide +kernel
theorem dX7_goes_42 : decode cX7_goes 42 = .ok (.iconst 1, 1) := by decide +kernel
theorem dX7_goes_43 : decode cX7_goes 43 = .ok (.istore 6, 2) := by decide +kernel
theorem dX7_goes_45 : decode cX7_goes 45 = .ok (.iload 6, 2) := by decide +kernel
theorem dX7_goes_47 : decode cX7_goes 47 = .ok (.iconst 3, 1) := by decide +kernel
theorem dX7_goes_48 : decode cX7_goes 48 = .ok (.if_icmp .ge 42, 3) := by decide +kernel
theorem dX7_goes_51 : decode cX7_goes 51 = .ok (.aload_n 0, 1) := by decide +kernel
theorem dX7_goes_52 : decode cX7_goes 52 = .ok (.getfield 18, 3) := by decide +kernel
theorem dX7_goes_55 : decode cX7_goes 55 = .ok (.iload_n 1, 1) := by decide +kernel
theorem dX7_goes_56 : decode cX7_goes 56 = .ok (.aaload, 1) := by decide +kernel
theorem dX7_goes_57 : decode cX7_goes 57 = .ok (.iload_n 2, 1) := by decide +kernel
theorem dX7_goes_58 : decode cX7_goes 58 = .ok (.iload 6, 2) := by decide +kernel
theorem dX7_goes_60 : decode cX7_goes 60 = .ok (.iload_n 3, 1) := by decide +kernel
theorem dX7_goes_61 : decode cX7_goes 61 = .ok (.invokevirtual 168, 3) := by decide +kernel
theorem dX7_goes_64 : decode cX7_goes 64 = .ok (.istore 7, 2) := by decide +kernel
theorem dX7_goes_66 : decode cX7_goes 66 = .ok (.iload 4, 2) := by decide +kernel
theorem dX7_goes_68 : decode cX7_goes 68 = .ok (.iload 7, 2) := by decide +kernel
theorem dX7_goes_70 : decode cX7_goes 70 = .ok (.invokestatic 171, 3) := by decide +kernel
theorem dX7_goes_73 : decode cX7_goes 73 = .ok (.istore 4, 2) := by decide +kernel
theorem dX7_goes_75 : decode cX7_goes 75 = .ok (.iload 5, 2) := by decide +kernel
theorem dX7_goes_77 : decode cX7_goes 77 = .ok (.iload 7, 2) := by decide +kernel
theorem dX7_goes_79 : decode cX7_goes 79 = .ok (.invokestatic 174, 3) := by decide +kernel
theorem dX7_goes_82 : decode cX7_goes 82 = .ok (.istore 5, 2) := by decide +kernel
theorem dX7_goes_84 : decode cX7_goes 84 = .ok (.iinc 6 1, 3) := by decide +kernel
theorem dX7_goes_87 : decode cX7_goes 87 = .ok (.goto (-42), 3) := by decide +kernel
theorem dX7_goes_90 : decode cX7_goes 90 = .ok (.iload 4, 2) := by decide +kernel
theorem dX7_goes_92 : decode cX7_goes 92 = .ok (.i2l, 1) := by decide +kernel
theorem dX7_goes_93 : decode cX7_goes 93 = .ok (.iload 5, 2) := by decide +kernel
theorem dX7_goes_95 : decode cX7_goes 95 = .ok (.i2l, 1) := by decide +kernel
theorem dX7_goes_96 : decode cX7_goes 96 = .ok (.invokestatic 164, 3) := by decide +kernel
theorem dX7_goes_99 : decode cX7_goes 99 = .ok (.ireturn, 1) := by decide +kernel
theorem dX7_area_0 : decode cX7_area 0 = .ok (.iload_n 1, 1) := by decide +kernel
theorem dX7_area_1 : decode cX7_area 1 = .ok (.iconst (-1), 1) := by decide +kernel
theorem dX7_area_2 : decode cX7_area 2 = .ok (.if_icmp .eq 11, 3) := by decide +kernel
theorem dX7_area_5 : decode cX7_area 5 = .ok (.aload_n 0, 1) := by decide +kernel
theorem dX7_area_6 : decode cX7_area 6 = .ok (.iload_n 1, 1) := by decide +kernel
theorem dX7_area_7 : decode cX7_area 7 = .ok (.invokevirtual 88, 3) := by decide +kernel
theorem dX7_area_10 : decode cX7_area 10 = .ok (.ifCond .eq 12, 3) := by decide +kernel
theorem dX7_area_13 : decode cX7_area 13 = .ok (.iload_n 2, 1) := by decide +kernel
theorem dX7_area_14 : decode cX7_area 14 = .ok (.ifCond .lt 8, 3) := by decide +kernel
theorem dX7_area_17 : decode cX7_area 17 = .ok (.iload_n 2, 1) := by decide +kernel
theorem dX7_area_18 : decode cX7_area 18 = .ok (.iconst 1, 1) := by decide +kernel
theorem dX7_area_19 : decode cX7_area 19 = .ok (.if_icmp .le 6, 3) := by decide +kernel
theorem dX7_area_22 : decode cX7_area 22 = .ok (.ldc 101, 2) := by decide +kernel
theorem dX7_area_24 : decode cX7_area 24 = .ok (.ireturn, 1) := by decide +kernel
theorem dX7_area_25 : decode cX7_area 25 = .ok (.iconst 0, 1) := by decide +kernel
theorem dX7_area_26 : decode cX7_area 26 = .ok (.istore_n 3, 1) := by decide +kernel
theorem dX7_area_27 : decode cX7_area 27 = .ok (.iconst 0, 1) := by decide +kernel
theorem dX7_area_28 : decode cX7_area 28 = .ok (.istore 4, 2) := by decide +kernel
theorem dX7_area_30 : decode cX7_area 30 = .ok (.iload 4, 2) := by decide +kernel
theorem dX7_area_32 : decode cX7_area 32 = .ok (.aload_n 0, 1) := by decide +kernel
theorem dX7_area_33 : decode cX7_area 33 = .ok (.getfield 23, 3) := by decide +kernel
theorem dX7_area_36 : decode cX7_area 36 = .ok (.if_icmp .ge 33, 3) := by decide +kernel
theorem dX7_area_39 : decode cX7_area 39 = .ok (.iload_n 1, 1) := by decide +kernel
theorem dX7_area_40 : decode cX7_area 40 = .ok (.iconst (-1), 1) := by decide +kernel
theorem dX7_area_41 : decode cX7_area 41 = .ok (.if_icmp .eq 9, 3) := by decide +kernel
theorem dX7_area_44 : decode cX7_area 44 = .ok (.iload_n 1, 1) := by decide +kernel
theorem dX7_area_45 : decode cX7_area 45 = .ok (.iload 4, 2) := by decide +kernel
theorem dX7_area_47 : decode cX7_area 47 = .ok (.if_icmp .ne 16, 3) := by decide +kernel
theorem dX7_area_50 : decode cX7_area 50 = .ok (.iload_n 3, 1) := by decide +kernel
theorem dX7_area_51 : decode cX7_area 51 = .ok (.aload_n 0, 1) := by decide +kernel
theorem dX7_area_52 : decode cX7_area 52 = .ok (.getfield 18, 3) := by decide +kernel
theorem dX7_area_55 : decode cX7_area 55 = .ok (.iload 4, 2) := by decide +kernel
theorem dX7_area_57 : decode cX7_area 57 = .ok (.aaload, 1) := by decide +kernel
theorem dX7_area_58 : decode cX7_area 58 = .ok (.invokevirtual 176, 3) := by decide +kernel
theorem dX7_area_61 : decode cX7_area 61 = .ok (.iadd, 1) := by decide +kernel
theorem dX7_area_62 : decode cX7_area 62 = .ok (.istore_n 3, 1) := by decide +kernel
theorem dX7_area_63 : decode cX7_area 63 = .ok (.iinc 4 1, 3) := by decide +kernel
theorem dX7_area_66 : decode cX7_area 66 = .ok (.goto (-36), 3) := by decide +kernel
theorem dX7_area_69 : decode cX7_area 69 = .ok (.iload_n 3, 1) := by decide +kernel
theorem dX7_area_70 : decode cX7_area 70 = .ok (.invokestatic 179, 3) := by decide +kernel
theorem dX7_area_73 : decode cX7_area 73 = .ok (.istore 4, 2) := by decide +kernel
theorem dX7_area_75 : decode cX7_area 75 = .ok (.iload_n 2, 1) := by decide +kernel
theorem dX7_area_76 : decode cX7_area 76 = .ok (.ifCond .ne 10, 3) := by decide +kernel
theorem dX7_area_79 : decode cX7_area 79 = .ok (.iload_n 3, 1) := by decide +kernel
theorem dX7_area_80 : decode cX7_area 80 = .ok (.iload 4, 2) := by decide +kernel
theorem dX7_area_82 : decode cX7_area 82 = .ok (.idiv, 1) := by decide +kernel
theorem dX7_area_83 : decode cX7_area 83 = .ok (.goto 8, 3) := by decide +kernel
theorem dX7_area_86 : decode cX7_area 86 = .ok (.bipush 20, 2) := by decide +kernel
theorem dX7_area_88 : decode cX7_area 88 = .ok (.iload 4, 2) := by decide +kernel
theorem dX7_area_90 : decode cX7_area 90 = .ok (.idiv, 1) := by decide +kernel
theorem dX7_area_91 : decode cX7_area 91 = .ok (.ireturn, 1) := by decide +kernel
theorem dX7_meets_0 : decode cX7_meets 0 = .ok (.aload_n 0, 1) := by decide +kernel
theorem dX7_meets_1 : decode cX7_meets 1 = .ok (.iload_n 1, 1) := by decide +kernel
theorem dX7_meets_2 : decode cX7_meets 2 = .ok (.iload_n 2, 1) := by decide +kernel
theorem dX7_meets_3 : decode cX7_meets 3 = .ok (.invokevirtual 135, 3) := by decide +kernel
theorem dX7_meets_6 : decode cX7_meets 6 = .ok (.ifCond .eq 12, 3) := by decide +kernel
theorem dX7_meets_9 : decode cX7_meets 9 = .ok (.iload_n 3, 1) := by decide +kernel
theorem dX7_meets_10 : decode cX7_meets 10 = .ok (.ifCond .lt 8, 3) := by decide +kernel
theorem dX7_meets_13 : decode cX7_meets 13 = .ok (.iload_n 3, 1) := by decide +kernel
theorem dX7_meets_14 : decode cX7_meets 14 = .ok (.iconst 2, 1) := by decide +kernel
theorem dX7_meets_15 : decode cX7_meets 15 = .ok (.if_icmp .le 5, 3) := by decide +kernel
theorem dX7_meets_18 : decode cX7_meets 18 = .ok (.iconst (-1), 1) := by decide +kernel
theorem dX7_meets_19 : decode cX7_meets 19 = .ok (.ireturn, 1) := by decide +kernel
theorem dX7_meets_20 : decode cX7_meets 20 = .ok (.aload_n 0, 1) := by decide +kernel
theorem dX7_meets_21 : decode cX7_meets 21 = .ok (.getfield 51, 3) := by decide +kernel
theorem dX7_meets_24 : decode cX7_meets 24 = .ok (.aload_n 0, 1) := by decide +kernel
theorem dX7_meets_25 : decode cX7_meets 25 = .ok (.getfield 18, 3) := by decide +kernel
theorem dX7_meets_28 : decode cX7_meets 28 = .ok (.iload_n 1, 1) := by decide +kernel
theorem dX7_meets_29 : decode cX7_meets 29 = .ok (.iload_n 2, 1) := by decide +kernel
theorem dX7_meets_30 : decode cX7_meets 30 = .ok (.invokevirtual 182, 3) := by decide +kernel
theorem dX7_meets_33 : decode cX7_meets 33 = .ok (.aload_n 0, 1) := by decide +kernel
theorem dX7_meets_34 : decode cX7_meets 34 = .ok (.getfield 51, 3) := by decide +kernel
theorem dX7_meets_37 : decode cX7_meets 37 = .ok (.invokevirtual 186, 3) := by decide +kernel
theorem dX7_meets_40 : decode cX7_meets 40 = .ok (.ifCond .eq 6, 3) := by decide +kernel
theorem dX7_meets_43 : decode cX7_meets 43 = .ok (.bipush (-4), 2) := by decide +kernel
theorem dX7_meets_45 : decode cX7_meets 45 = .ok (.ireturn, 1) := by decide +kernel
theorem dX7_meets_46 : decode cX7_meets 46 = .ok (.iload_n 3, 1) := by decide +kernel
theorem dX7_meets_47 : decode cX7_meets 47 = .ok (.lookupswitch 49 #[(0, 25), (1, 33)], 25) := by decide +kernel
theorem dX7_meets_72 : decode cX7_meets 72 = .ok (.aload_n 0, 1) := by decide +kernel
theorem dX7_meets_73 : decode cX7_meets 73 = .ok (.getfield 51, 3) := by decide +kernel
theorem dX7_meets_76 : decode cX7_meets 76 = .ok (.getfield 190, 3) := by decide +kernel
theorem dX7_meets_79 : decode cX7_meets 79 = .ok (.ireturn, 1) := by decide +kernel
theorem dX7_meets_80 : decode cX7_meets 80 = .ok (.aload_n 0, 1) := by decide +kernel
theorem dX7_meets_81 : decode cX7_meets 81 = .ok (.getfield 51, 3) := by decide +kernel
theorem dX7_meets_84 : decode cX7_meets 84 = .ok (.getfield 193, 3) := by decide +kernel
theorem dX7_meets_87 : decode cX7_meets 87 = .ok (.aload_n 0, 1) := by decide +kernel
theorem dX7_meets_88 : decode cX7_meets 88 = .ok (.getfield 51, 3) := by decide +kernel
theorem dX7_meets_91 : decode cX7_meets 91 = .ok (.getfield 190, 3) := by decide +kernel
theorem dX7_meets_94 : decode cX7_meets 94 = .ok (.isub, 1) := by decide +kernel
theorem dX7_meets_95 : decode cX7_meets 95 = .ok (.ireturn, 1) := by decide +kernel
theorem dX7_meets_96 : decode cX7_meets 96 = .ok (.aload_n 0, 1) := by decide +kernel
theorem dX7_meets_97 : decode cX7_meets 97 = .ok (.getfield 51, 3) := by decide +kernel
theorem dX7_meets_100 : decode cX7_meets 100 = .ok (.getfield 194, 3) := by decide +kernel
theorem dX7_meets_103 : decode cX7_meets 103 = .ok (.ireturn, 1) := by decide +kernel
theorem dX7_meeting_0 : decode cX7_meeting 0 = .ok (.aload_n 0, 1) := by decide +kernel
theorem dX7_meeting_1 : decode cX7_meeting 1 = .ok (.iload_n 1, 1) := by decide +kernel
theorem dX7_meeting_2 : decode cX7_meeting 2 = .ok (.iload_n 2, 1) := by decide +kernel
theorem dX7_meeting_3 : decode cX7_meeting 3 = .ok (.invokevirtual 135, 3) := by decide +kernel
theorem dX7_meeting_6 : decode cX7_meeting 6 = .ok (.ifCond .eq 18, 3) := by decide +kernel
theorem dX7_meeting_9 : decode cX7_meeting 9 = .ok (.iload_n 3, 1) := by decide +kernel
theorem dX7_meeting_10 : decode cX7_meeting 10 = .ok (.ifCond .lt 14, 3) := by decide +kernel
theorem dX7_meeting_13 : decode cX7_meeting 13 = .ok (.iload 4, 2) := by decide +kernel
theorem dX7_meeting_15 : decode cX7_meeting 15 = .ok (.ifCond .lt 9, 3) := by decide +kernel
theorem dX7_meeting_18 : decode cX7_meeting 18 = .ok (.iload 4, 2) := by decide +kernel
theorem dX7_meeting_20 : decode cX7_meeting 20 = .ok (.iconst 2, 1) := by decide +kernel
theorem dX7_meeting_21 : decode cX7_meeting 21 = .ok (.if_icmp .le 5, 3) := by decide +kernel
theorem dX7_meeting_24 : decode cX7_meeting 24 = .ok (.iconst (-1), 1) := by decide +kernel
theorem dX7_meeting_25 : decode cX7_meeting 25 = .ok (.ireturn, 1) := by decide +kernel
theorem dX7_meeting_26 : decode cX7_meeting 26 = .ok (.aload_n 0, 1) := by decide +kernel
theorem dX7_meeting_27 : decode cX7_meeting 27 = .ok (.getfield 51, 3) := by decide +kernel
theorem dX7_meeting_30 : decode cX7_meeting 30 = .ok (.aload_n 0, 1) := by decide +kernel
theorem dX7_meeting_31 : decode cX7_meeting 31 = .ok (.getfield 18, 3) := by decide +kernel
theorem dX7_meeting_34 : decode cX7_meeting 34 = .ok (.iload_n 1, 1) := by decide +kernel
theorem dX7_meeting_35 : decode cX7_meeting 35 = .ok (.iload_n 2, 1) := by decide +kernel
theorem dX7_meeting_36 : decode cX7_meeting 36 = .ok (.invokevirtual 182, 3) := by decide +kernel
theorem dX7_meeting_39 : decode cX7_meeting 39 = .ok (.aload_n 0, 1) := by decide +kernel
theorem dX7_meeting_40 : decode cX7_meeting 40 = .ok (.getfield 51, 3) := by decide +kernel
theorem dX7_meeting_43 : decode cX7_meeting 43 = .ok (.invokevirtual 186, 3) := by decide +kernel
theorem dX7_meeting_46 : decode cX7_meeting 46 = .ok (.ifCond .eq 6, 3) := by decide +kernel
theorem dX7_meeting_49 : decode cX7_meeting 49 = .ok (.bipush (-4), 2) := by decide +kernel
theorem dX7_meeting_51 : decode cX7_meeting 51 = .ok (.ireturn, 1) := by decide +kernel
theorem dX7_meeting_52 : decode cX7_meeting 52 = .ok (.iload_n 3, 1) := by decide +kernel
theorem dX7_meeting_53 : decode cX7_meeting 53 = .ok (.aload_n 0, 1) := by decide +kernel
theorem dX7_meeting_54 : decode cX7_meeting 54 = .ok (.getfield 51, 3) := by decide +kernel
theorem dX7_meeting_57 : decode cX7_meeting 57 = .ok (.getfield 193, 3) := by decide +kernel
theorem dX7_meeting_60 : decode cX7_meeting 60 = .ok (.if_icmp .lt 6, 3) := by decide +kernel
theorem dX7_meeting_63 : decode cX7_meeting 63 = .ok (.bipush (-9), 2) := by decide +kernel
theorem dX7_meeting_65 : decode cX7_meeting 65 = .ok (.ireturn, 1) := by decide +kernel
theorem dX7_meeting_66 : decode cX7_meeting 66 = .ok (.iload 4, 2) := by decide +kernel
theorem dX7_meeting_68 : decode cX7_meeting 68 = .ok (.lookupswitch 48 #[(0, 28), (1, 38)], 28) := by decide +kernel
theorem dX7_meeting_96 : decode cX7_meeting 96 = .ok (.aload_n 0, 1) := by decide +kernel
theorem dX7_meeting_97 : decode cX7_meeting 97 = .ok (.getfield 51, 3) := by decide +kernel
theorem dX7_meeting_100 : decode cX7_meeting 100 = .ok (.getfield 197, 3) := by decide +kernel
theorem dX7_meeting_103 : decode cX7_meeting 103 = .ok (.iload_n 3, 1) := by decide +kernel
theorem dX7_meeting_104 : decode cX7_meeting 104 = .ok (.iaload, 1) := by decide +kernel
theorem dX7_meeting_105 : decode cX7_meeting 105 = .ok (.ireturn, 1) := by decide +kernel
theorem dX7_meeting_106 : decode cX7_meeting 106 = .ok (.aload_n 0, 1) := by decide +kernel
theorem dX7_meeting_107 : decode cX7_meeting 107 = .ok (.getfield 51, 3) := by decide +kernel
theorem dX7_meeting_110 : decode cX7_meeting 110 = .ok (.getfield 200, 3) := by decide +kernel
theorem dX7_meeting_113 : decode cX7_meeting 113 = .ok (.iload_n 3, 1) := by decide +kernel
theorem dX7_meeting_114 : decode cX7_meeting 114 = .ok (.iaload, 1) := by decide +kernel
theorem dX7_meeting_115 : decode cX7_meeting 115 = .ok (.ireturn, 1) := by decide +kernel
theorem dX7_meeting_116 : decode cX7_meeting 116 = .ok (.aload_n 0, 1) := by decide +kernel
theorem dX7_meeting_117 : decode cX7_meeting 117 = .ok (.getfield 51, 3) := by decide +kernel
theorem dX7_meeting_120 : decode cX7_meeting 120 = .ok (.getfield 203, 3) := by decide +kernel
theorem dX7_meeting_123 : decode cX7_meeting 123 = .ok (.iload_n 3, 1) := by decide +kernel
theorem dX7_meeting_124 : decode cX7_meeting 124 = .ok (.iaload, 1) := by decide +kernel
theorem dX7_meeting_125 : decode cX7_meeting 125 = .ok (.ireturn, 1) := by decide +kernel
theorem dX7_spot_0 : decode cX7_spot 0 = .ok (.aload_n 0, 1) := by decide +kernel
theorem dX7_spot_1 : decode cX7_spot 1 = .ok (.iload_n 1, 1) := by decide +kernel
theorem dX7_spot_2 : decode cX7_spot 2 = .ok (.iload_n 2, 1) := by decide +kernel
theorem dX7_spot_3 : decode cX7_spot 3 = .ok (.invokevirtual 135, 3) := by decide +kernel
theorem dX7_spot_6 : decode cX7_spot 6 = .ok (.ifCond .eq 18, 3) := by decide +kernel
theorem dX7_spot_9 : decode cX7_spot 9 = .ok (.iload_n 3, 1) := by decide +kernel
theorem dX7_spot_10 : decode cX7_spot 10 = .ok (.ifCond .lt 14, 3) := by decide +kernel
theorem dX7_spot_13 : decode cX7_spot 13 = .ok (.iload 4, 2) := by decide +kernel
theorem dX7_spot_15 : decode cX7_spot 15 = .ok (.ifCond .lt 9, 3) := by decide +kernel
theorem dX7_spot_18 : decode cX7_spot 18 = .ok (.iload 4, 2) := by decide +kernel
theorem dX7_spot_20 : decode cX7_spot 20 = .ok (.iconst 5, 1) := by decide +kernel
theorem dX7_spot_21 : decode cX7_spot 21 = .ok (.if_icmp .le 5, 3) := by decide +kernel
theorem dX7_spot_24 : decode cX7_spot 24 = .ok (.iconst (-1), 1) := by decide +kernel
theorem dX7_spot_25 : decode cX7_spot 25 = .ok (.ireturn, 1) := by decide +kernel
theorem dX7_spot_26 : decode cX7_spot 26 = .ok (.aload_n 0, 1) := by decide +kernel
theorem dX7_spot_27 : decode cX7_spot 27 = .ok (.getfield 51, 3) := by decide +kernel
theorem dX7_spot_30 : decode cX7_spot 30 = .ok (.aload_n 0, 1) := by decide +kernel
theorem dX7_spot_31 : decode cX7_spot 31 = .ok (.getfield 18, 3) := by decide +kernel
theorem dX7_spot_34 : decode cX7_spot 34 = .ok (.iload_n 1, 1) := by decide +kernel
theorem dX7_spot_35 : decode cX7_spot 35 = .ok (.iload_n 2, 1) := by decide +kernel
theorem dX7_spot_36 : decode cX7_spot 36 = .ok (.invokevirtual 182, 3) := by decide +kernel
theorem dX7_spot_39 : decode cX7_spot 39 = .ok (.aload_n 0, 1) := by decide +kernel
theorem dX7_spot_40 : decode cX7_spot 40 = .ok (.getfield 51, 3) := by decide +kernel
theorem dX7_spot_43 : decode cX7_spot 43 = .ok (.invokevirtual 186, 3) := by decide +kernel
theorem dX7_spot_46 : decode cX7_spot 46 = .ok (.ifCond .eq 6, 3) := by decide +kernel
theorem dX7_spot_49 : decode cX7_spot 49 = .ok (.bipush (-4), 2) := by decide +kernel
theorem dX7_spot_51 : decode cX7_spot 51 = .ok (.ireturn, 1) := by decide +kernel
theorem dX7_spot_52 : decode cX7_spot 52 = .ok (.iload_n 3, 1) := by decide +kernel
theorem dX7_spot_53 : decode cX7_spot 53 = .ok (.aload_n 0, 1) := by decide +kernel
theorem dX7_spot_54 : decode cX7_spot 54 = .ok (.getfield 51, 3) := by decide +kernel
theorem dX7_spot_57 : decode cX7_spot 57 = .ok (.getfield 194, 3) := by decide +kernel
theorem dX7_spot_60 : decode cX7_spot 60 = .ok (.if_icmp .lt 6, 3) := by decide +kernel
theorem dX7_spot_63 : decode cX7_spot 63 = .ok (.bipush (-9), 2) := by decide +kernel
theorem dX7_spot_65 : decode cX7_spot 65 = .ok (.ireturn, 1) := by decide +kernel
theorem dX7_spot_66 : decode cX7_spot 66 = .ok (.aload_n 0, 1) := by decide +kernel
theorem dX7_spot_67 : decode cX7_spot 67 = .ok (.getfield 51, 3) := by decide +kernel
theorem dX7_spot_70 : decode cX7_spot 70 = .ok (.iload_n 3, 1) := by decide +kernel
theorem dX7_spot_71 : decode cX7_spot 71 = .ok (.iload 4, 2) := by decide +kernel
theorem dX7_spot_73 : decode cX7_spot 73 = .ok (.invokevirtual 206, 3) := by decide +kernel
theorem dX7_spot_76 : decode cX7_spot 76 = .ok (.ireturn, 1) := by decide +kernel
theorem dX7_busiest_0 : decode cX7_busiest 0 = .ok (.iload_n 1, 1) := by decide +kernel
theorem dX7_busiest_1 : decode cX7_busiest 1 = .ok (.ifCond .lt 8, 3) := by decide +kernel
theorem dX7_busiest_4 : decode cX7_busiest 4 = .ok (.iload_n 1, 1) := by decide +kernel
theorem dX7_busiest_5 : decode cX7_busiest 5 = .ok (.iconst 2, 1) := by decide +kernel
theorem dX7_busiest_6 : decode cX7_busiest 6 = .ok (.if_icmp .le 5, 3) := by decide +kernel
theorem dX7_busiest_9 : decode cX7_busiest 9 = .ok (.iconst (-1), 1) := by decide +kernel
theorem dX7_busiest_10 : decode cX7_busiest 10 = .ok (.ireturn, 1) := by decide +kernel
theorem dX7_busiest_11 : decode cX7_busiest 11 = .ok (.bipush (-9), 2) := by decide +kernel
theorem dX7_busiest_13 : decode cX7_busiest 13 = .ok (.istore_n 2, 1) := by decide +kernel
theorem dX7_busiest_14 : decode cX7_busiest 14 = .ok (.bipush (-9), 2) := by decide +kernel
theorem dX7_busiest_16 : decode cX7_busiest 16 = .ok (.istore_n 3, 1) := by decide +kernel
theorem dX7_busiest_17 : decode cX7_busiest 17 = .ok (.bipush (-9), 2) := by decide +kernel
theorem dX7_busiest_19 : decode cX7_busiest 19 = .ok (.istore 4, 2) := by decide +kernel
theorem dX7_busiest_21 : decode cX7_busiest 21 = .ok (.iconst 0, 1) := by decide +kernel
theorem dX7_busiest_22 : decode cX7_busiest 22 = .ok (.istore 5, 2) := by decide +kernel
theorem dX7_busiest_24 : decode cX7_busiest 24 = .ok (.iload 5, 2) := by decide +kernel
theorem dX7_busiest_26 : decode cX7_busiest 26 = .ok (.aload_n 0, 1) := by decide +kernel
theorem dX7_busiest_27 : decode cX7_busiest 27 = .ok (.getfield 23, 3) := by decide +kernel
theorem dX7_busiest_30 : decode cX7_busiest 30 = .ok (.if_icmp .ge 64, 3) := by decide +kernel
theorem dX7_busiest_33 : decode cX7_busiest 33 = .ok (.iload 5, 2) := by decide +kernel
theorem dX7_busiest_35 : decode cX7_busiest 35 = .ok (.iconst 1, 1) := by decide +kernel
theorem dX7_busiest_36 : decode cX7_busiest 36 = .ok (.iadd, 1) := by decide +kernel
theorem dX7_busiest_37 : decode cX7_busiest 37 = .ok (.istore 6, 2) := by decide +kernel
theorem dX7_busiest_39 : decode cX7_busiest 39 = .ok (.iload 6, 2) := by decide +kernel
theorem dX7_busiest_41 : decode cX7_busiest 41 = .ok (.aload_n 0, 1) := by decide +kernel
theorem dX7_busiest_42 : decode cX7_busiest 42 = .ok (.getfield 23, 3) := by decide +kernel
theorem dX7_busiest_45 : decode cX7_busiest 45 = .ok (.if_icmp .ge 43, 3) := by decide +kernel
theorem dX7_busiest_48 : decode cX7_busiest 48 = .ok (.aload_n 0, 1) := by decide +kernel
theorem dX7_busiest_49 : decode cX7_busiest 49 = .ok (.getfield 51, 3) := by decide +kernel
theorem dX7_busiest_52 : decode cX7_busiest 52 = .ok (.aload_n 0, 1) := by decide +kernel
theorem dX7_busiest_53 : decode cX7_busiest 53 = .ok (.getfield 18, 3) := by decide +kernel
theorem dX7_busiest_56 : decode cX7_busiest 56 = .ok (.iload 5, 2) := by decide +kernel
theorem dX7_busiest_58 : decode cX7_busiest 58 = .ok (.iload 6, 2) := by decide +kernel
theorem dX7_busiest_60 : decode cX7_busiest 60 = .ok (.invokevirtual 209, 3) := by decide +kernel
theorem dX7_busiest_63 : decode cX7_busiest 63 = .ok (.istore 7, 2) := by decide +kernel
theorem dX7_busiest_65 : decode cX7_busiest 65 = .ok (.iload 7, 2) := by decide +kernel
theorem dX7_busiest_67 : decode cX7_busiest 67 = .ok (.iload 4, 2) := by decide +kernel
theorem dX7_busiest_69 : decode cX7_busiest 69 = .ok (.if_icmp .le 13, 3) := by decide +kernel
theorem dX7_busiest_72 : decode cX7_busiest 72 = .ok (.iload 5, 2) := by decide +kernel
theorem dX7_busiest_74 : decode cX7_busiest 74 = .ok (.istore_n 2, 1) := by decide +kernel
theorem dX7_busiest_75 : decode cX7_busiest 75 = .ok (.iload 6, 2) := by decide +kernel
theorem dX7_busiest_77 : decode cX7_busiest 77 = .ok (.istore_n 3, 1) := by decide +kernel
theorem dX7_busiest_78 : decode cX7_busiest 78 = .ok (.iload 7, 2) := by decide +kernel
theorem dX7_busiest_80 : decode cX7_busiest 80 = .ok (.istore 4, 2) := by decide +kernel
theorem dX7_busiest_82 : decode cX7_busiest 82 = .ok (.iinc 6 1, 3) := by decide +kernel
theorem dX7_busiest_85 : decode cX7_busiest 85 = .ok (.goto (-46), 3) := by decide +kernel
theorem dX7_busiest_88 : decode cX7_busiest 88 = .ok (.iinc 5 1, 3) := by decide +kernel
theorem dX7_busiest_91 : decode cX7_busiest 91 = .ok (.goto (-67), 3) := by decide +kernel
theorem dX7_busiest_94 : decode cX7_busiest 94 = .ok (.iload_n 1, 1) := by decide +kernel
theorem dX7_busiest_95 : decode cX7_busiest 95 = .ok (.lookupswitch 29 #[(0, 25), (1, 27)], 25) := by decide +kernel
theorem dX7_busiest_120 : decode cX7_busiest 120 = .ok (.iload_n 2, 1) := by decide +kernel
theorem dX7_busiest_121 : decode cX7_busiest 121 = .ok (.ireturn, 1) := by decide +kernel
theorem dX7_busiest_122 : decode cX7_busiest 122 = .ok (.iload_n 3, 1) := by decide +kernel
theorem dX7_busiest_123 : decode cX7_busiest 123 = .ok (.ireturn, 1) := by decide +kernel
theorem dX7_busiest_124 : decode cX7_busiest 124 = .ok (.iload 4, 2) := by decide +kernel
theorem dX7_busiest_126 : decode cX7_busiest 126 = .ok (.ireturn, 1) := by decide +kernel
theorem dX7_sees_0 : decode cX7_sees 0 = .ok (.aload_n 0, 1) := by decide +kernel
theorem dX7_sees_1 : decode cX7_sees 1 = .ok (.iload_n 1, 1) := by decide +kernel
theorem dX7_sees_2 : decode cX7_sees 2 = .ok (.invokevirtual 88, 3) := by decide +kernel
theorem dX7_sees_5 : decode cX7_sees 5 = .ok (.ifCond .eq 13, 3) := by decide +kernel
theorem dX7_sees_8 : decode cX7_sees 8 = .ok (.iload_n 2, 1) := by decide +kernel
theorem dX7_sees_9 : decode cX7_sees 9 = .ok (.ifCond .lt 9, 3) := by decide +kernel
theorem dX7_sees_12 : decode cX7_sees 12 = .ok (.iload_n 2, 1) := by decide +kernel
theorem dX7_sees_13 : decode cX7_sees 13 = .ok (.bipush 101, 2) := by decide +kernel
theorem dX7_sees_15 : decode cX7_sees 15 = .ok (.if_icmp .le 5, 3) := by decide +kernel
theorem dX7_sees_18 : decode cX7_sees 18 = .ok (.iconst (-1), 1) := by decide +kernel
theorem dX7_sees_19 : decode cX7_sees 19 = .ok (.ireturn, 1) := by decide +kernel
theorem dX7_sees_20 : decode cX7_sees 20 = .ok (.aload_n 0, 1) := by decide +kernel
theorem dX7_sees_21 : decode cX7_sees 21 = .ok (.getfield 44, 3) := by decide +kernel
theorem dX7_sees_24 : decode cX7_sees 24 = .ok (.getfield 81, 3) := by decide +kernel
theorem dX7_sees_27 : decode cX7_sees 27 = .ok (.bipush 6, 2) := by decide +kernel
theorem dX7_sees_29 : decode cX7_sees 29 = .ok (.if_icmp .lt 6, 3) := by decide +kernel
theorem dX7_sees_32 : decode cX7_sees 32 = .ok (.bipush (-3), 2) := by decide +kernel
theorem dX7_sees_34 : decode cX7_sees 34 = .ok (.ireturn, 1) := by decide +kernel
theorem dX7_sees_35 : decode cX7_sees 35 = .ok (.aload_n 0, 1) := by decide +kernel
theorem dX7_sees_36 : decode cX7_sees 36 = .ok (.getfield 44, 3) := by decide +kernel
theorem dX7_sees_39 : decode cX7_sees 39 = .ok (.iload_n 1, 1) := by decide +kernel
theorem dX7_sees_40 : decode cX7_sees 40 = .ok (.iload_n 2, 1) := by decide +kernel
theorem dX7_sees_41 : decode cX7_sees 41 = .ok (.invokevirtual 213, 3) := by decide +kernel
theorem dX7_sees_44 : decode cX7_sees 44 = .ok (.ireturn, 1) := by decide +kernel
theorem dX7_forget_0 : decode cX7_forget 0 = .ok (.aload_n 0, 1) := by decide +kernel
theorem dX7_forget_1 : decode cX7_forget 1 = .ok (.getfield 44, 3) := by decide +kernel
theorem dX7_forget_4 : decode cX7_forget 4 = .ok (.getfield 81, 3) := by decide +kernel
theorem dX7_forget_7 : decode cX7_forget 7 = .ok (.istore_n 1, 1) := by decide +kernel
theorem dX7_forget_8 : decode cX7_forget 8 = .ok (.aload_n 0, 1) := by decide +kernel
theorem dX7_forget_9 : decode cX7_forget 9 = .ok (.getfield 44, 3) := by decide +kernel
theorem dX7_forget_12 : decode cX7_forget 12 = .ok (.iconst 0, 1) := by decide +kernel
theorem dX7_forget_13 : decode cX7_forget 13 = .ok (.putfield 81, 3) := by decide +kernel
theorem dX7_forget_16 : decode cX7_forget 16 = .ok (.iload_n 1, 1) := by decide +kernel
theorem dX7_forget_17 : decode cX7_forget 17 = .ok (.ireturn, 1) := by decide +kernel
theorem dX7_unseen_0 : decode cX7_unseen 0 = .ok (.iconst 0, 1) := by decide +kernel
theorem dX7_unseen_1 : decode cX7_unseen 1 = .ok (.istore_n 1, 1) := by decide +kernel
theorem dX7_unseen_2 : decode cX7_unseen 2 = .ok (.iconst 0, 1) := by decide +kernel
theorem dX7_unseen_3 : decode cX7_unseen 3 = .ok (.istore_n 2, 1) := by decide +kernel
theorem dX7_unseen_4 : decode cX7_unseen 4 = .ok (.iload_n 2, 1) := by decide +kernel
theorem dX7_unseen_5 : decode cX7_unseen 5 = .ok (.aload_n 0, 1) := by decide +kernel
theorem dX7_unseen_6 : decode cX7_unseen 6 = .ok (.getfield 23, 3) := by decide +kernel
theorem dX7_unseen_9 : decode cX7_unseen 9 = .ok (.if_icmp .ge 87, 3) := by decide +kernel
theorem dX7_unseen_12 : decode cX7_unseen 12 = .ok (.iconst 1, 1) := by decide +kernel
theorem dX7_unseen_13 : decode cX7_unseen 13 = .ok (.istore_n 3, 1) := by decide +kernel
theorem dX7_unseen_14 : decode cX7_unseen 14 = .ok (.iconst 0, 1) := by decide +kernel
theorem dX7_unseen_15 : decode cX7_unseen 15 = .ok (.istore 4, 2) := by decide +kernel
theorem dX7_unseen_17 : decode cX7_unseen 17 = .ok (.iload 4, 2) := by decide +kernel
theorem dX7_unseen_19 : decode cX7_unseen 19 = .ok (.aload_n 0, 1) := by decide +kernel
theorem dX7_unseen_20 : decode cX7_unseen 20 = .ok (.getfield 44, 3) := by decide +kernel
theorem dX7_unseen_23 : decode cX7_unseen 23 = .ok (.getfield 81, 3) := by decide +kernel
theorem dX7_unseen_26 : decode cX7_unseen 26 = .ok (.if_icmp .ge 54, 3) := by decide +kernel
theorem dX7_unseen_29 : decode cX7_unseen 29 = .ok (.iload_n 3, 1) := by decide +kernel
theorem dX7_unseen_30 : decode cX7_unseen 30 = .ok (.ifCond .eq 50, 3) := by decide +kernel
theorem dX7_unseen_33 : decode cX7_unseen 33 = .ok (.aload_n 0, 1) := by decide +kernel
theorem dX7_unseen_34 : decode cX7_unseen 34 = .ok (.getfield 51, 3) := by decide +kernel
theorem dX7_unseen_37 : decode cX7_unseen 37 = .ok (.aload_n 0, 1) := by decide +kernel
theorem dX7_unseen_38 : decode cX7_unseen 38 = .ok (.getfield 18, 3) := by decide +kernel
theorem dX7_unseen_41 : decode cX7_unseen 41 = .ok (.iload_n 2, 1) := by decide +kernel
theorem dX7_unseen_42 : decode cX7_unseen 42 = .ok (.aload_n 0, 1) := by decide +kernel
theorem dX7_unseen_43 : decode cX7_unseen 43 = .ok (.getfield 44, 3) := by decide +kernel
theorem dX7_unseen_46 : decode cX7_unseen 46 = .ok (.getfield 215, 3) := by decide +kernel
theorem dX7_unseen_49 : decode cX7_unseen 49 = .ok (.iload 4, 2) := by decide +kernel
theorem dX7_unseen_51 : decode cX7_unseen 51 = .ok (.iaload, 1) := by decide +kernel
theorem dX7_unseen_52 : decode cX7_unseen 52 = .ok (.invokevirtual 209, 3) := by decide +kernel
theorem dX7_unseen_55 : decode cX7_unseen 55 = .ok (.aload_n 0, 1) := by decide +kernel
theorem dX7_unseen_56 : decode cX7_unseen 56 = .ok (.getfield 44, 3) := by decide +kernel
theorem dX7_unseen_59 : decode cX7_unseen 59 = .ok (.getfield 218, 3) := by decide +kernel
theorem dX7_unseen_62 : decode cX7_unseen 62 = .ok (.iload 4, 2) := by decide +kernel
theorem dX7_unseen_64 : decode cX7_unseen 64 = .ok (.iaload, 1) := by decide +kernel
theorem dX7_unseen_65 : decode cX7_unseen 65 = .ok (.if_icmp .ne 7, 3) := by decide +kernel
theorem dX7_unseen_68 : decode cX7_unseen 68 = .ok (.iconst 1, 1) := by decide +kernel
theorem dX7_unseen_69 : decode cX7_unseen 69 = .ok (.goto 4, 3) := by decide +kernel
theorem dX7_unseen_72 : decode cX7_unseen 72 = .ok (.iconst 0, 1) := by decide +kernel
theorem dX7_unseen_73 : decode cX7_unseen 73 = .ok (.istore_n 3, 1) := by decide +kernel
theorem dX7_unseen_74 : decode cX7_unseen 74 = .ok (.iinc 4 1, 3) := by decide +kernel
theorem dX7_unseen_77 : decode cX7_unseen 77 = .ok (.goto (-60), 3) := by decide +kernel
theorem dX7_unseen_80 : decode cX7_unseen 80 = .ok (.iload_n 3, 1) := by decide +kernel
theorem dX7_unseen_81 : decode cX7_unseen 81 = .ok (.ifCond .eq 9, 3) := by decide +kernel
theorem dX7_unseen_84 : decode cX7_unseen 84 = .ok (.iload_n 1, 1) := by decide +kernel
theorem dX7_unseen_85 : decode cX7_unseen 85 = .ok (.iconst 1, 1) := by decide +kernel
theorem dX7_unseen_86 : decode cX7_unseen 86 = .ok (.iload_n 2, 1) := by decide +kernel
theorem dX7_unseen_87 : decode cX7_unseen 87 = .ok (.ishl, 1) := by decide +kernel
theorem dX7_unseen_88 : decode cX7_unseen 88 = .ok (.ior, 1) := by decide +kernel
theorem dX7_unseen_89 : decode cX7_unseen 89 = .ok (.istore_n 1, 1) := by decide +kernel
theorem dX7_unseen_90 : decode cX7_unseen 90 = .ok (.iinc 2 1, 3) := by decide +kernel
theorem dX7_unseen_93 : decode cX7_unseen 93 = .ok (.goto (-89), 3) := by decide +kernel
theorem dX7_unseen_96 : decode cX7_unseen 96 = .ok (.iload_n 1, 1) := by decide +kernel
theorem dX7_unseen_97 : decode cX7_unseen 97 = .ok (.ireturn, 1) := by decide +kernel
theorem dX7_keep_0 : decode cX7_keep 0 = .ok (.iload_n 1, 1) := by decide +kernel
theorem dX7_keep_1 : decode cX7_keep 1 = .ok (.invokestatic 221, 3) := by decide +kernel
theorem dX7_keep_4 : decode cX7_keep 4 = .ok (.ifCond .ne 5, 3) := by decide +kernel
theorem dX7_keep_7 : decode cX7_keep 7 = .ok (.iconst (-1), 1) := by decide +kernel
theorem dX7_keep_8 : decode cX7_keep 8 = .ok (.ireturn, 1) := by decide +kernel
theorem dX7_keep_9 : decode cX7_keep 9 = .ok (.aload_n 0, 1) := by decide +kernel
theorem dX7_keep_10 : decode cX7_keep 10 = .ok (.getfield 37, 3) := by decide +kernel
theorem dX7_keep_13 : decode cX7_keep 13 = .ok (.getfield 224, 3) := by decide +kernel
theorem dX7_keep_16 : decode cX7_keep 16 = .ok (.iload_n 1, 1) := by decide +kernel
theorem dX7_keep_17 : decode cX7_keep 17 = .ok (.iconst 1, 1) := by decide +kernel
theorem dX7_keep_18 : decode cX7_keep 18 = .ok (.bastore, 1) := by decide +kernel
theorem dX7_keep_19 : decode cX7_keep 19 = .ok (.iconst 0, 1) := by decide +kernel
theorem dX7_keep_20 : decode cX7_keep 20 = .ok (.istore_n 2, 1) := by decide +kernel
theorem dX7_keep_21 : decode cX7_keep 21 = .ok (.iload_n 2, 1) := by decide +kernel
theorem dX7_keep_22 : decode cX7_keep 22 = .ok (.aload_n 0, 1) := by decide +kernel
theorem dX7_keep_23 : decode cX7_keep 23 = .ok (.getfield 23, 3) := by decide +kernel
theorem dX7_keep_26 : decode cX7_keep 26 = .ok (.if_icmp .ge 36, 3) := by decide +kernel
theorem dX7_keep_29 : decode cX7_keep 29 = .ok (.aload_n 0, 1) := by decide +kernel
theorem dX7_keep_30 : decode cX7_keep 30 = .ok (.getfield 18, 3) := by decide +kernel
theorem dX7_keep_33 : decode cX7_keep 33 = .ok (.iload_n 2, 1) := by decide +kernel
theorem dX7_keep_34 : decode cX7_keep 34 = .ok (.aaload, 1) := by decide +kernel
theorem dX7_keep_35 : decode cX7_keep 35 = .ok (.getfield 110, 3) := by decide +kernel
theorem dX7_keep_38 : decode cX7_keep 38 = .ok (.iconst 0, 1) := by decide +kernel
theorem dX7_keep_39 : decode cX7_keep 39 = .ok (.aload_n 0, 1) := by decide +kernel
theorem dX7_keep_40 : decode cX7_keep 40 = .ok (.getfield 37, 3) := by decide +kernel
theorem dX7_keep_43 : decode cX7_keep 43 = .ok (.getfield 228, 3) := by decide +kernel
theorem dX7_keep_46 : decode cX7_keep 46 = .ok (.iload_n 1, 1) := by decide +kernel
theorem dX7_keep_47 : decode cX7_keep 47 = .ok (.iload_n 2, 1) := by decide +kernel
theorem dX7_keep_48 : decode cX7_keep 48 = .ok (.invokestatic 229, 3) := by decide +kernel
theorem dX7_keep_51 : decode cX7_keep 51 = .ok (.bipush 8, 2) := by decide +kernel
theorem dX7_keep_53 : decode cX7_keep 53 = .ok (.invokestatic 232, 3) := by decide +kernel
theorem dX7_keep_56 : decode cX7_keep 56 = .ok (.iinc 2 1, 3) := by decide +kernel
theorem dX7_keep_59 : decode cX7_keep 59 = .ok (.goto (-38), 3) := by decide +kernel
theorem dX7_keep_62 : decode cX7_keep 62 = .ok (.aload_n 0, 1) := by decide +kernel
theorem dX7_keep_63 : decode cX7_keep 63 = .ok (.getfield 23, 3) := by decide +kernel
theorem dX7_keep_66 : decode cX7_keep 66 = .ok (.ireturn, 1) := by decide +kernel
theorem dX7_back_0 : decode cX7_back 0 = .ok (.iload_n 1, 1) := by decide +kernel
theorem dX7_back_1 : decode cX7_back 1 = .ok (.invokestatic 221, 3) := by decide +kernel
theorem dX7_back_4 : decode cX7_back 4 = .ok (.ifCond .ne 5, 3) := by decide +kernel
theorem dX7_back_7 : decode cX7_back 7 = .ok (.iconst (-1), 1) := by decide +kernel
theorem dX7_back_8 : decode cX7_back 8 = .ok (.ireturn, 1) := by decide +kernel
theorem dX7_back_9 : decode cX7_back 9 = .ok (.aload_n 0, 1) := by decide +kernel
theorem dX7_back_10 : decode cX7_back 10 = .ok (.getfield 37, 3) := by decide +kernel
theorem dX7_back_13 : decode cX7_back 13 = .ok (.getfield 224, 3) := by decide +kernel
theorem dX7_back_16 : decode cX7_back 16 = .ok (.iload_n 1, 1) := by decide +kernel
theorem dX7_back_17 : decode cX7_back 17 = .ok (.baload, 1) := by decide +kernel
theorem dX7_back_18 : decode cX7_back 18 = .ok (.ifCond .ne 6, 3) := by decide +kernel
theorem dX7_back_21 : decode cX7_back 21 = .ok (.bipush (-2), 2) := by decide +kernel
theorem dX7_back_23 : decode cX7_back 23 = .ok (.ireturn, 1) := by decide +kernel
theorem dX7_back_24 : decode cX7_back 24 = .ok (.iconst 0, 1) := by decide +kernel
theorem dX7_back_25 : decode cX7_back 25 = .ok (.istore_n 2, 1) := by decide +kernel
theorem dX7_back_26 : decode cX7_back 26 = .ok (.iload_n 2, 1) := by decide +kernel
theorem dX7_back_27 : decode cX7_back 27 = .ok (.aload_n 0, 1) := by decide +kernel
theorem dX7_back_28 : decode cX7_back 28 = .ok (.getfield 23, 3) := by decide +kernel
theorem dX7_back_31 : decode cX7_back 31 = .ok (.if_icmp .ge 30, 3) := by decide +kernel
theorem dX7_back_34 : decode cX7_back 34 = .ok (.aload_n 0, 1) := by decide +kernel
theorem dX7_back_35 : decode cX7_back 35 = .ok (.getfield 18, 3) := by decide +kernel
theorem dX7_back_38 : decode cX7_back 38 = .ok (.iload_n 2, 1) := by decide +kernel
theorem dX7_back_39 : decode cX7_back 39 = .ok (.aaload, 1) := by decide +kernel
theorem dX7_back_40 : decode cX7_back 40 = .ok (.aload_n 0, 1) := by decide +kernel
theorem dX7_back_41 : decode cX7_back 41 = .ok (.getfield 37, 3) := by decide +kernel
theorem dX7_back_44 : decode cX7_back 44 = .ok (.getfield 228, 3) := by decide +kernel
theorem dX7_back_47 : decode cX7_back 47 = .ok (.iload_n 1, 1) := by decide +kernel
theorem dX7_back_48 : decode cX7_back 48 = .ok (.iload_n 2, 1) := by decide +kernel
theorem dX7_back_49 : decode cX7_back 49 = .ok (.invokestatic 229, 3) := by decide +kernel
theorem dX7_back_52 : decode cX7_back 52 = .ok (.invokevirtual 76, 3) := by decide +kernel
theorem dX7_back_55 : decode cX7_back 55 = .ok (.iinc 2 1, 3) := by decide +kernel
theorem dX7_back_58 : decode cX7_back 58 = .ok (.goto (-32), 3) := by decide +kernel
theorem dX7_back_61 : decode cX7_back 61 = .ok (.aload_n 0, 1) := by decide +kernel
theorem dX7_back_62 : decode cX7_back 62 = .ok (.getfield 30, 3) := by decide +kernel
theorem dX7_back_65 : decode cX7_back 65 = .ok (.iconst 0, 1) := by decide +kernel
theorem dX7_back_66 : decode cX7_back 66 = .ok (.putfield 80, 3) := by decide +kernel
theorem dX7_back_69 : decode cX7_back 69 = .ok (.aload_n 0, 1) := by decide +kernel
theorem dX7_back_70 : decode cX7_back 70 = .ok (.getfield 51, 3) := by decide +kernel
theorem dX7_back_73 : decode cX7_back 73 = .ok (.invokevirtual 85, 3) := by decide +kernel
theorem dX7_back_76 : decode cX7_back 76 = .ok (.aload_n 0, 1) := by decide +kernel
theorem dX7_back_77 : decode cX7_back 77 = .ok (.getfield 23, 3) := by decide +kernel
theorem dX7_back_80 : decode cX7_back 80 = .ok (.ireturn, 1) := by decide +kernel
theorem dX7_count_0 : decode cX7_count 0 = .ok (.iload_n 1, 1) := by decide +kernel
theorem dX7_count_1 : decode cX7_count 1 = .ok (.tableswitch 60 0 3 #[31, 36, 44, 52], 31) := by decide +kernel
theorem dX7_count_32 : decode cX7_count 32 = .ok (.aload_n 0, 1) := by decide +kernel
theorem dX7_count_33 : decode cX7_count 33 = .ok (.getfield 23, 3) := by decide +kernel
theorem dX7_count_36 : decode cX7_count 36 = .ok (.ireturn, 1) := by decide +kernel
theorem dX7_count_37 : decode cX7_count 37 = .ok (.aload_n 0, 1) := by decide +kernel
theorem dX7_count_38 : decode cX7_count 38 = .ok (.getfield 44, 3) := by decide +kernel
theorem dX7_count_41 : decode cX7_count 41 = .ok (.getfield 81, 3) := by decide +kernel
theorem dX7_count_44 : decode cX7_count 44 = .ok (.ireturn, 1) := by decide +kernel
theorem dX7_count_45 : decode cX7_count 45 = .ok (.aload_n 0, 1) := by decide +kernel
theorem dX7_count_46 : decode cX7_count 46 = .ok (.getfield 10, 3) := by decide +kernel
theorem dX7_count_49 : decode cX7_count 49 = .ok (.getfield 55, 3) := by decide +kernel
theorem dX7_count_52 : decode cX7_count 52 = .ok (.ireturn, 1) := by decide +kernel
theorem dX7_count_53 : decode cX7_count 53 = .ok (.aload_n 0, 1) := by decide +kernel
theorem dX7_count_54 : decode cX7_count 54 = .ok (.getfield 30, 3) := by decide +kernel
theorem dX7_count_57 : decode cX7_count 57 = .ok (.getfield 80, 3) := by decide +kernel
theorem dX7_count_60 : decode cX7_count 60 = .ok (.ireturn, 1) := by decide +kernel
theorem dX7_count_61 : decode cX7_count 61 = .ok (.iconst (-1), 1) := by decide +kernel
theorem dX7_count_62 : decode cX7_count 62 = .ok (.ireturn, 1) := by decide +kernel
theorem dX7_isArc_0 : decode cX7_isArc 0 = .ok (.iload_n 1, 1) := by decide +kernel
theorem dX7_isArc_1 : decode cX7_isArc 1 = .ok (.ifCond .lt 15, 3) := by decide +kernel
theorem dX7_isArc_4 : decode cX7_isArc 4 = .ok (.iload_n 1, 1) := by decide +kernel
theorem dX7_isArc_5 : decode cX7_isArc 5 = .ok (.aload_n 0, 1) := by decide +kernel
theorem dX7_isArc_6 : decode cX7_isArc 6 = .ok (.getfield 23, 3) := by decide +kernel
theorem dX7_isArc_9 : decode cX7_isArc 9 = .ok (.if_icmp .ge 7, 3) := by decide +kernel
theorem dX7_isArc_12 : decode cX7_isArc 12 = .ok (.iconst 1, 1) := by decide +kernel
theorem dX7_isArc_13 : decode cX7_isArc 13 = .ok (.goto 4, 3) := by decide +kernel
theorem dX7_isArc_16 : decode cX7_isArc 16 = .ok (.iconst 0, 1) := by decide +kernel
theorem dX7_isArc_17 : decode cX7_isArc 17 = .ok (.ireturn, 1) := by decide +kernel
theorem dX7_areTwoArcs_0 : decode cX7_areTwoArcs 0 = .ok (.aload_n 0, 1) := by decide +kernel
theorem dX7_areTwoArcs_1 : decode cX7_areTwoArcs 1 = .ok (.iload_n 1, 1) := by decide +kernel
theorem dX7_areTwoArcs_2 : decode cX7_areTwoArcs 2 = .ok (.invokevirtual 88, 3) := by decide +kernel
theorem dX7_areTwoArcs_5 : decode cX7_areTwoArcs 5 = .ok (.ifCond .eq 20, 3) := by decide +kernel
theorem dX7_areTwoArcs_8 : decode cX7_areTwoArcs 8 = .ok (.aload_n 0, 1) := by decide +kernel
theorem dX7_areTwoArcs_9 : decode cX7_areTwoArcs 9 = .ok (.iload_n 2, 1) := by decide +kernel
theorem dX7_areTwoArcs_10 : decode cX7_areTwoArcs 10 = .ok (.invokevirtual 88, 3) := by decide +kernel
theorem dX7_areTwoArcs_13 : decode cX7_areTwoArcs 13 = .ok (.ifCond .eq 12, 3) := by decide +kernel
theorem dX7_areTwoArcs_16 : decode cX7_areTwoArcs 16 = .ok (.iload_n 1, 1) := by decide +kernel
theorem dX7_areTwoArcs_17 : decode cX7_areTwoArcs 17 = .ok (.iload_n 2, 1) := by decide +kernel
theorem dX7_areTwoArcs_18 : decode cX7_areTwoArcs 18 = .ok (.if_icmp .eq 7, 3) := by decide +kernel
theorem dX7_areTwoArcs_21 : decode cX7_areTwoArcs 21 = .ok (.iconst 1, 1) := by decide +kernel
theorem dX7_areTwoArcs_22 : decode cX7_areTwoArcs 22 = .ok (.goto 4, 3) := by decide +kernel
theorem dX7_areTwoArcs_25 : decode cX7_areTwoArcs 25 = .ok (.iconst 0, 1) := by decide +kernel
theorem dX7_areTwoArcs_26 : decode cX7_areTwoArcs 26 = .ok (.ireturn, 1) := by decide +kernel
theorem dX7_isNode_0 : decode cX7_isNode 0 = .ok (.iload_n 0, 1) := by decide +kernel
theorem dX7_isNode_1 : decode cX7_isNode 1 = .ok (.iconst 1, 1) := by decide +kernel
theorem dX7_isNode_2 : decode cX7_isNode 2 = .ok (.if_icmp .lt 13, 3) := by decide +kernel
theorem dX7_isNode_5 : decode cX7_isNode 5 = .ok (.iload_n 0, 1) := by decide +kernel
theorem dX7_isNode_6 : decode cX7_isNode 6 = .ok (.bipush 63, 2) := by decide +kernel
theorem dX7_isNode_8 : decode cX7_isNode 8 = .ok (.if_icmp .gt 7, 3) := by decide +kernel
theorem dX7_isNode_11 : decode cX7_isNode 11 = .ok (.iconst 1, 1) := by decide +kernel
theorem dX7_isNode_12 : decode cX7_isNode 12 = .ok (.goto 4, 3) := by decide +kernel
theorem dX7_isNode_15 : decode cX7_isNode 15 = .ok (.iconst 0, 1) := by decide +kernel
theorem dX7_isNode_16 : decode cX7_isNode 16 = .ok (.ireturn, 1) := by decide +kernel
theorem dX7_isPoint_0 : decode cX7_isPoint 0 = .ok (.iload_n 0, 1) := by decide +kernel
theorem dX7_isPoint_1 : decode cX7_isPoint 1 = .ok (.ifCond .lt 12, 3) := by decide +kernel
theorem dX7_isPoint_4 : decode cX7_isPoint 4 = .ok (.iload_n 0, 1) := by decide +kernel
theorem dX7_isPoint_5 : decode cX7_isPoint 5 = .ok (.iconst 4, 1) := by decide +kernel
theorem dX7_isPoint_6 : decode cX7_isPoint 6 = .ok (.if_icmp .ge 7, 3) := by decide +kernel
theorem dX7_isPoint_9 : decode cX7_isPoint 9 = .ok (.iconst 1, 1) := by decide +kernel
theorem dX7_isPoint_10 : decode cX7_isPoint 10 = .ok (.goto 4, 3) := by decide +kernel
theorem dX7_isPoint_13 : decode cX7_isPoint 13 = .ok (.iconst 0, 1) := by decide +kernel
theorem dX7_isPoint_14 : decode cX7_isPoint 14 = .ok (.ireturn, 1) := by decide +kernel
theorem dX7_isAxis_0 : decode cX7_isAxis 0 = .ok (.iload_n 0, 1) := by decide +kernel
theorem dX7_isAxis_1 : decode cX7_isAxis 1 = .ok (.ifCond .eq 8, 3) := by decide +kernel
theorem dX7_isAxis_4 : decode cX7_isAxis 4 = .ok (.iload_n 0, 1) := by decide +kernel
theorem dX7_isAxis_5 : decode cX7_isAxis 5 = .ok (.iconst 1, 1) := by decide +kernel
theorem dX7_isAxis_6 : decode cX7_isAxis 6 = .ok (.if_icmp .ne 7, 3) := by decide +kernel
theorem dX7_isAxis_9 : decode cX7_isAxis 9 = .ok (.iconst 1, 1) := by decide +kernel
theorem dX7_isAxis_10 : decode cX7_isAxis 10 = .ok (.goto 4, 3) := by decide +kernel
theorem dX7_isAxis_13 : decode cX7_isAxis 13 = .ok (.iconst 0, 1) := by decide +kernel
theorem dX7_isAxis_14 : decode cX7_isAxis 14 = .ok (.ireturn, 1) := by decide +kernel
theorem dX7_isCoordinate_0 : decode cX7_isCoordinate 0 = .ok (.lload_n 0, 1) := by decide +kernel
theorem dX7_isCoordinate_1 : decode cX7_isCoordinate 1 = .ok (.ldc2_w 238, 3) := by decide +kernel
theorem dX7_isCoordinate_4 : decode cX7_isCoordinate 4 = .ok (.lcmp, 1) := by decide +kernel
theorem dX7_isCoordinate_5 : decode cX7_isCoordinate 5 = .ok (.ifCond .lt 15, 3) := by decide +kernel
theorem dX7_isCoordinate_8 : decode cX7_isCoordinate 8 = .ok (.lload_n 0, 1) := by decide +kernel
theorem dX7_isCoordinate_9 : decode cX7_isCoordinate 9 = .ok (.ldc2_w 240, 3) := by decide +kernel
theorem dX7_isCoordinate_12 : decode cX7_isCoordinate 12 = .ok (.lcmp, 1) := by decide +kernel
theorem dX7_isCoordinate_13 : decode cX7_isCoordinate 13 = .ok (.ifCond .gt 7, 3) := by decide +kernel
theorem dX7_isCoordinate_16 : decode cX7_isCoordinate 16 = .ok (.iconst 1, 1) := by decide +kernel
theorem dX7_isCoordinate_17 : decode cX7_isCoordinate 17 = .ok (.goto 4, 3) := by decide +kernel
theorem dX7_isCoordinate_20 : decode cX7_isCoordinate 20 = .ok (.iconst 0, 1) := by decide +kernel
theorem dX7_isCoordinate_21 : decode cX7_isCoordinate 21 = .ok (.ireturn, 1) := by decide +kernel
theorem dX7_isImage_0 : decode cX7_isImage 0 = .ok (.iload_n 0, 1) := by decide +kernel
theorem dX7_isImage_1 : decode cX7_isImage 1 = .ok (.ifCond .lt 12, 3) := by decide +kernel
theorem dX7_isImage_4 : decode cX7_isImage 4 = .ok (.iload_n 0, 1) := by decide +kernel
theorem dX7_isImage_5 : decode cX7_isImage 5 = .ok (.iconst 2, 1) := by decide +kernel
theorem dX7_isImage_6 : decode cX7_isImage 6 = .ok (.if_icmp .ge 7, 3) := by decide +kernel
theorem dX7_isImage_9 : decode cX7_isImage 9 = .ok (.iconst 1, 1) := by decide +kernel
theorem dX7_isImage_10 : decode cX7_isImage 10 = .ok (.goto 4, 3) := by decide +kernel
theorem dX7_isImage_13 : decode cX7_isImage 13 = .ok (.iconst 0, 1) := by decide +kernel
theorem dX7_isImage_14 : decode cX7_isImage 14 = .ok (.ireturn, 1) := by decide +kernel
theorem dX7_startChange_0 : decode cX7_startChange 0 = .ok (.aload_n 0, 1) := by decide +kernel
theorem dX7_startChange_1 : decode cX7_startChange 1 = .ok (.getfield 30, 3) := by decide +kernel
theorem dX7_startChange_4 : decode cX7_startChange 4 = .ok (.iload_n 1, 1) := by decide +kernel
theorem dX7_startChange_5 : decode cX7_startChange 5 = .ok (.aload_n 0, 1) := by decide +kernel
theorem dX7_startChange_6 : decode cX7_startChange 6 = .ok (.getfield 18, 3) := by decide +kernel
theorem dX7_startChange_9 : decode cX7_startChange 9 = .ok (.iload_n 1, 1) := by decide +kernel
theorem dX7_startChange_10 : decode cX7_startChange 10 = .ok (.aaload, 1) := by decide +kernel
theorem dX7_startChange_11 : decode cX7_startChange 11 = .ok (.getfield 110, 3) := by decide +kernel
theorem dX7_startChange_14 : decode cX7_startChange 14 = .ok (.invokevirtual 242, 3) := by decide +kernel
theorem dX7_startChange_17 : decode cX7_startChange 17 = .ok (.aload_n 0, 1) := by decide +kernel
theorem dX7_startChange_18 : decode cX7_startChange 18 = .ok (.getfield 51, 3) := by decide +kernel
theorem dX7_startChange_21 : decode cX7_startChange 21 = .ok (.invokevirtual 85, 3) := by decide +kernel
theorem dX7_startChange_24 : decode cX7_startChange 24 = .ok (.return_, 1) := by decide +kernel
theorem dX7_whichSigns_0 : decode cX7_whichSigns 0 = .ok (.lload_n 0, 1) := by decide +kernel
theorem dX7_whichSigns_1 : decode cX7_whichSigns 1 = .ok (.lconst 0, 1) := by decide +kernel
theorem dX7_whichSigns_2 : decode cX7_whichSigns 2 = .ok (.lcmp, 1) := by decide +kernel
theorem dX7_whichSigns_3 : decode cX7_whichSigns 3 = .ok (.ifCond .ne 11, 3) := by decide +kernel
theorem dX7_whichSigns_6 : decode cX7_whichSigns 6 = .ok (.lload_n 2, 1) := by decide +kernel
theorem dX7_whichSigns_7 : decode cX7_whichSigns 7 = .ok (.lconst 0, 1) := by decide +kernel
theorem dX7_whichSigns_8 : decode cX7_whichSigns 8 = .ok (.lcmp, 1) := by decide +kernel
theorem dX7_whichSigns_9 : decode cX7_whichSigns 9 = .ok (.ifCond .ne 5, 3) := by decide +kernel
theorem dX7_whichSigns_12 : decode cX7_whichSigns 12 = .ok (.iconst 0, 1) := by decide +kernel
theorem dX7_whichSigns_13 : decode cX7_whichSigns 13 = .ok (.ireturn, 1) := by decide +kernel
theorem dX7_whichSigns_14 : decode cX7_whichSigns 14 = .ok (.lload_n 0, 1) := by decide +kernel
theorem dX7_whichSigns_15 : decode cX7_whichSigns 15 = .ok (.lconst 0, 1) := by decide +kernel
theorem dX7_whichSigns_16 : decode cX7_whichSigns 16 = .ok (.lcmp, 1) := by decide +kernel
theorem dX7_whichSigns_17 : decode cX7_whichSigns 17 = .ok (.ifCond .lt 5, 3) := by decide +kernel
theorem dX7_whichSigns_20 : decode cX7_whichSigns 20 = .ok (.iconst 1, 1) := by decide +kernel
theorem dX7_whichSigns_21 : decode cX7_whichSigns 21 = .ok (.ireturn, 1) := by decide +kernel
theorem dX7_whichSigns_22 : decode cX7_whichSigns 22 = .ok (.lload_n 2, 1) := by decide +kernel
theorem dX7_whichSigns_23 : decode cX7_whichSigns 23 = .ok (.lconst 0, 1) := by decide +kernel
theorem dX7_whichSigns_24 : decode cX7_whichSigns 24 = .ok (.lcmp, 1) := by decide +kernel
theorem dX7_whichSigns_25 : decode cX7_whichSigns 25 = .ok (.ifCond .gt 7, 3) := by decide +kernel
theorem dX7_whichSigns_28 : decode cX7_whichSigns 28 = .ok (.iconst 2, 1) := by decide +kernel
theorem dX7_whichSigns_29 : decode cX7_whichSigns 29 = .ok (.goto 4, 3) := by decide +kernel
theorem dX7_whichSigns_32 : decode cX7_whichSigns 32 = .ok (.iconst 3, 1) := by decide +kernel
theorem dX7_whichSigns_33 : decode cX7_whichSigns 33 = .ok (.ireturn, 1) := by decide +kernel
theorem dX7_commonDivisor_0 : decode cX7_commonDivisor 0 = .ok (.bipush 20, 2) := by decide +kernel
theorem dX7_commonDivisor_2 : decode cX7_commonDivisor 2 = .ok (.istore_n 1, 1) := by decide +kernel
theorem dX7_commonDivisor_3 : decode cX7_commonDivisor 3 = .ok (.iload_n 1, 1) := by decide +kernel
theorem dX7_commonDivisor_4 : decode cX7_commonDivisor 4 = .ok (.iconst 1, 1) := by decide +kernel
theorem dX7_commonDivisor_5 : decode cX7_commonDivisor 5 = .ok (.if_icmp .le 24, 3) := by decide +kernel
theorem dX7_commonDivisor_8 : decode cX7_commonDivisor 8 = .ok (.bipush 20, 2) := by decide +kernel
theorem dX7_commonDivisor_10 : decode cX7_commonDivisor 10 = .ok (.iload_n 1, 1) := by decide +kernel
theorem dX7_commonDivisor_11 : decode cX7_commonDivisor 11 = .ok (.irem, 1) := by decide +kernel
theorem dX7_commonDivisor_12 : decode cX7_commonDivisor 12 = .ok (.ifCond .ne 11, 3) := by decide +kernel
theorem dX7_commonDivisor_15 : decode cX7_commonDivisor 15 = .ok (.iload_n 0, 1) := by decide +kernel
theorem dX7_commonDivisor_16 : decode cX7_commonDivisor 16 = .ok (.iload_n 1, 1) := by decide +kernel
theorem dX7_commonDivisor_17 : decode cX7_commonDivisor 17 = .ok (.irem, 1) := by decide +kernel
theorem dX7_commonDivisor_18 : decode cX7_commonDivisor 18 = .ok (.ifCond .ne 5, 3) := by decide +kernel
theorem dX7_commonDivisor_21 : decode cX7_commonDivisor 21 = .ok (.iload_n 1, 1) := by decide +kernel
theorem dX7_commonDivisor_22 : decode cX7_commonDivisor 22 = .ok (.ireturn, 1) := by decide +kernel
theorem dX7_commonDivisor_23 : decode cX7_commonDivisor 23 = .ok (.iinc 1 (-1), 3) := by decide +kernel
theorem dX7_commonDivisor_26 : decode cX7_commonDivisor 26 = .ok (.goto (-23), 3) := by decide +kernel
theorem dX7_commonDivisor_29 : decode cX7_commonDivisor 29 = .ok (.iconst 1, 1) := by decide +kernel
theorem dX7_commonDivisor_30 : decode cX7_commonDivisor 30 = .ok (.ireturn, 1) := by decide +kernel
theorem dX8_init_0 : decode cX8_init 0 = .ok (.aload_n 0, 1) := by decide +kernel
theorem dX8_init_1 : decode cX8_init 1 = .ok (.invokespecial 1, 3) := by decide +kernel
theorem dX8_init_4 : decode cX8_init 4 = .ok (.aload_n 0, 1) := by decide +kernel
theorem dX8_init_5 : decode cX8_init 5 = .ok (.bipush 32, 2) := by decide +kernel
theorem dX8_init_7 : decode cX8_init 7 = .ok (.newarray .int, 2) := by decide +kernel
theorem dX8_init_9 : decode cX8_init 9 = .ok (.putfield 7, 3) := by decide +kernel
theorem dX8_init_12 : decode cX8_init 12 = .ok (.aload_n 0, 1) := by decide +kernel
theorem dX8_init_13 : decode cX8_init 13 = .ok (.sipush 320, 3) := by decide +kernel
theorem dX8_init_16 : decode cX8_init 16 = .ok (.newarray .int, 2) := by decide +kernel
theorem dX8_init_18 : decode cX8_init 18 = .ok (.putfield 13, 3) := by decide +kernel
theorem dX8_init_21 : decode cX8_init 21 = .ok (.aload_n 0, 1) := by decide +kernel
theorem dX8_init_22 : decode cX8_init 22 = .ok (.bipush 64, 2) := by decide +kernel
theorem dX8_init_24 : decode cX8_init 24 = .ok (.newarray .int, 2) := by decide +kernel
theorem dX8_init_26 : decode cX8_init 26 = .ok (.putfield 16, 3) := by decide +kernel
theorem dX8_init_29 : decode cX8_init 29 = .ok (.aload_n 0, 1) := by decide +kernel
theorem dX8_init_30 : decode cX8_init 30 = .ok (.iconst 2, 1) := by decide +kernel
theorem dX8_init_31 : decode cX8_init 31 = .ok (.newarray .boolean, 2) := by decide +kernel
theorem dX8_init_33 : decode cX8_init 33 = .ok (.putfield 19, 3) := by decide +kernel
theorem dX8_init_36 : decode cX8_init 36 = .ok (.aload_n 0, 1) := by decide +kernel
theorem dX8_init_37 : decode cX8_init 37 = .ok (.bipush 6, 2) := by decide +kernel
theorem dX8_init_39 : decode cX8_init 39 = .ok (.newarray .int, 2) := by decide +kernel
theorem dX8_init_41 : decode cX8_init 41 = .ok (.putfield 23, 3) := by decide +kernel
theorem dX8_init_44 : decode cX8_init 44 = .ok (.aload_n 0, 1) := by decide +kernel
theorem dX8_init_45 : decode cX8_init 45 = .ok (.bipush 6, 2) := by decide +kernel
theorem dX8_init_47 : decode cX8_init 47 = .ok (.newarray .int, 2) := by decide +kernel
theorem dX8_init_49 : decode cX8_init 49 = .ok (.putfield 26, 3) := by decide +kernel
theorem dX8_init_52 : decode cX8_init 52 = .ok (.aload_n 0, 1) := by decide +kernel
theorem dX8_init_53 : decode cX8_init 53 = .ok (.sipush 2048, 3) := by decide +kernel
theorem dX8_init_56 : decode cX8_init 56 = .ok (.newarray .int, 2) := by decide +kernel
theorem dX8_init_58 : decode cX8_init 58 = .ok (.putfield 29, 3) := by decide +kernel
theorem dX8_init_61 : decode cX8_init 61 = .ok (.aload_n 0, 1) := by decide +kernel
theorem dX8_init_62 : decode cX8_init 62 = .ok (.sipush 130, 3) := by decide +kernel
theorem dX8_init_65 : decode cX8_init 65 = .ok (.newarray .int, 2) := by decide +kernel
theorem dX8_init_67 : decode cX8_init 67 = .ok (.putfield 32, 3) := by decide +kernel
theorem dX8_init_70 : decode cX8_init 70 = .ok (.aload_n 0, 1) := by decide +kernel
theorem dX8_init_71 : decode cX8_init 71 = .ok (.bipush 32, 2) := by decide +kernel
theorem dX8_init_73 : decode cX8_init 73 = .ok (.newarray .int, 2) := by decide +kernel
theorem dX8_init_75 : decode cX8_init 75 = .ok (.putfield 35, 3) := by decide +kernel
theorem dX8_init_78 : decode cX8_init 78 = .ok (.aload_n 0, 1) := by decide +kernel
theorem dX8_init_79 : decode cX8_init 79 = .ok (.bipush 100, 2) := by decide +kernel
theorem dX8_init_81 : decode cX8_init 81 = .ok (.newarray .int, 2) := by decide +kernel
theorem dX8_init_83 : decode cX8_init 83 = .ok (.putfield 38, 3) := by decide +kernel
theorem dX8_init_86 : decode cX8_init 86 = .ok (.aload_n 0, 1) := by decide +kernel
theorem dX8_init_87 : decode cX8_init 87 = .ok (.bipush 100, 2) := by decide +kernel
theorem dX8_init_89 : decode cX8_init 89 = .ok (.newarray .int, 2) := by decide +kernel
theorem dX8_init_91 : decode cX8_init 91 = .ok (.putfield 41, 3) := by decide +kernel
theorem dX8_init_94 : decode cX8_init 94 = .ok (.aload_n 0, 1) := by decide +kernel
theorem dX8_init_95 : decode cX8_init 95 = .ok (.bipush 100, 2) := by decide +kernel
theorem dX8_init_97 : decode cX8_init 97 = .ok (.newarray .boolean, 2) := by decide +kernel
theorem dX8_init_99 : decode cX8_init 99 = .ok (.putfield 44, 3) := by decide +kernel
theorem dX8_init_102 : decode cX8_init 102 = .ok (.aload_n 0, 1) := by decide +kernel
theorem dX8_init_103 : decode cX8_init 103 = .ok (.bipush 100, 2) := by decide +kernel
theorem dX8_init_105 : decode cX8_init 105 = .ok (.newarray .int, 2) := by decide +kernel
theorem dX8_init_107 : decode cX8_init 107 = .ok (.putfield 47, 3) := by decide +kernel
theorem dX8_init_110 : decode cX8_init 110 = .ok (.aload_n 0, 1) := by decide +kernel
theorem dX8_init_111 : decode cX8_init 111 = .ok (.bipush 64, 2) := by decide +kernel
theorem dX8_init_113 : decode cX8_init 113 = .ok (.newarray .int, 2) := by decide +kernel
theorem dX8_init_115 : decode cX8_init 115 = .ok (.putfield 50, 3) := by decide +kernel
theorem dX8_init_118 : decode cX8_init 118 = .ok (.aload_n 0, 1) := by decide +kernel
theorem dX8_init_119 : decode cX8_init 119 = .ok (.bipush 64, 2) := by decide +kernel
theorem dX8_init_121 : decode cX8_init 121 = .ok (.newarray .int, 2) := by decide +kernel
theorem dX8_init_123 : decode cX8_init 123 = .ok (.putfield 53, 3) := by decide +kernel
theorem dX8_init_126 : decode cX8_init 126 = .ok (.aload_n 0, 1) := by decide +kernel
theorem dX8_init_127 : decode cX8_init 127 = .ok (.iconst 0, 1) := by decide +kernel
theorem dX8_init_128 : decode cX8_init 128 = .ok (.putfield 56, 3) := by decide +kernel
theorem dX8_init_131 : decode cX8_init 131 = .ok (.return_, 1) := by decide +kernel
theorem dX8_in_0 : decode cX8_in 0 = .ok (.iload_n 0, 1) := by decide +kernel
theorem dX8_in_1 : decode cX8_in 1 = .ok (.iload_n 1, 1) := by decide +kernel
theorem dX8_in_2 : decode cX8_in 2 = .ok (.if_icmp .lt 12, 3) := by decide +kernel
theorem dX8_in_5 : decode cX8_in 5 = .ok (.iload_n 0, 1) := by decide +kernel
theorem dX8_in_6 : decode cX8_in 6 = .ok (.iload_n 2, 1) := by decide +kernel
theorem dX8_in_7 : decode cX8_in 7 = .ok (.if_icmp .gt 7, 3) := by decide +kernel
theorem dX8_in_10 : decode cX8_in 10 = .ok (.iconst 1, 1) := by decide +kernel
theorem dX8_in_11 : decode cX8_in 11 = .ok (.goto 4, 3) := by decide +kernel
theorem dX8_in_14 : decode cX8_in 14 = .ok (.iconst 0, 1) := by decide +kernel
theorem dX8_in_15 : decode cX8_in 15 = .ok (.ireturn, 1) := by decide +kernel
theorem dX8_isArc_0 : decode cX8_isArc 0 = .ok (.iload_n 1, 1) := by decide +kernel
theorem dX8_isArc_1 : decode cX8_isArc 1 = .ok (.iconst 0, 1) := by decide +kernel
theorem dX8_isArc_2 : decode cX8_isArc 2 = .ok (.aload_n 0, 1) := by decide +kernel
theorem dX8_isArc_3 : decode cX8_isArc 3 = .ok (.getfield 56, 3) := by decide +kernel
theorem dX8_isArc_6 : decode cX8_isArc 6 = .ok (.iconst 1, 1) := by decide +kernel
theorem dX8_isArc_7 : decode cX8_isArc 7 = .ok (.isub, 1) := by decide +kernel
theorem dX8_isArc_8 : decode cX8_isArc 8 = .ok (.invokestatic 63, 3) := by decide +kernel
theorem dX8_isArc_11 : decode cX8_isArc 11 = .ok (.ireturn, 1) := by decide +kernel
theorem dX8_isNode_0 : decode cX8_isNode 0 = .ok (.iload_n 0, 1) := by decide +kernel
theorem dX8_isNode_1 : decode cX8_isNode 1 = .ok (.iconst 1, 1) := by decide +kernel
theorem dX8_isNode_2 : decode cX8_isNode 2 = .ok (.bipush 63, 2) := by decide +kernel
theorem dX8_isNode_4 : decode cX8_isNode 4 = .ok (.invokestatic 63, 3) := by decide +kernel
theorem dX8_isNode_7 : decode cX8_isNode 7 = .ok (.ireturn, 1) := by decide +kernel
theorem dX8_type_0 : decode cX8_type 0 = .ok (.aload_n 0, 1) := by decide +kernel
theorem dX8_type_1 : decode cX8_type 1 = .ok (.iconst 0, 1) := by decide +kernel
theorem dX8_type_2 : decode cX8_type 2 = .ok (.putfield 60, 3) := by decide +kernel
theorem dX8_type_5 : decode cX8_type 5 = .ok (.iload_n 1, 1) := by decide +kernel
theorem dX8_type_6 : decode cX8_type 6 = .ok (.iconst 0, 1) := by decide +kernel
theorem dX8_type_7 : decode cX8_type 7 = .ok (.sipush 255, 3) := by decide +kernel
theorem dX8_type_10 : decode cX8_type 10 = .ok (.invokestatic 63, 3) := by decide +kernel
theorem dX8_type_13 : decode cX8_type 13 = .ok (.ifCond .ne 5, 3) := by decide +kernel
theorem dX8_type_16 : decode cX8_type 16 = .ok (.iconst (-1), 1) := by decide +kernel
theorem dX8_type_17 : decode cX8_type 17 = .ok (.ireturn, 1) := by decide +kernel
theorem dX8_type_18 : decode cX8_type 18 = .ok (.aload_n 0, 1) := by decide +kernel
theorem dX8_type_19 : decode cX8_type 19 = .ok (.getfield 67, 3) := by decide +kernel
theorem dX8_type_22 : decode cX8_type 22 = .ok (.sipush 130, 3) := by decide +kernel
theorem dX8_type_25 : decode cX8_type 25 = .ok (.if_icmp .ne 6, 3) := by decide +kernel
theorem dX8_type_28 : decode cX8_type 28 = .ok (.bipush (-3), 2) := by decide +kernel
theorem dX8_type_30 : decode cX8_type 30 = .ok (.ireturn, 1) := by decide +kernel
theorem dX8_type_31 : decode cX8_type 31 = .ok (.aload_n 0, 1) := by decide +kernel
theorem dX8_type_32 : decode cX8_type 32 = .ok (.getfield 32, 3) := by decide +kernel
theorem dX8_type_35 : decode cX8_type 35 = .ok (.aload_n 0, 1) := by decide +kernel
theorem dX8_type_36 : decode cX8_type 36 = .ok (.getfield 67, 3) := by decide +kernel
theorem dX8_type_39 : decode cX8_type 39 = .ok (.iload_n 1, 1) := by decide +kernel
theorem dX8_type_40 : decode cX8_type 40 = .ok (.iastore, 1) := by decide +kernel
theorem dX8_type_41 : decode cX8_type 41 = .ok (.aload_n 0, 1) := by decide +kernel
theorem dX8_type_42 : decode cX8_type 42 = .ok (.dup, 1) := by decide +kernel
theorem dX8_type_43 : decode cX8_type 43 = .ok (.getfield 67, 3) := by decide +kernel
theorem dX8_type_46 : decode cX8_type 46 = .ok (.iconst 1, 1) := by decide +kernel
theorem dX8_type_47 : decode cX8_type 47 = .ok (.iadd, 1) := by decide +kernel
theorem dX8_type_48 : decode cX8_type 48 = .ok (.putfield 67, 3) := by decide +kernel
theorem dX8_type_51 : decode cX8_type 51 = .ok (.aload_n 0, 1) := by decide +kernel
theorem dX8_type_52 : decode cX8_type 52 = .ok (.getfield 67, 3) := by decide +kernel
theorem dX8_type_55 : decode cX8_type 55 = .ok (.ireturn, 1) := by decide +kernel
theorem dX8_clear_0 : decode cX8_clear 0 = .ok (.aload_n 0, 1) := by decide +kernel
theorem dX8_clear_1 : decode cX8_clear 1 = .ok (.iconst 0, 1) := by decide +kernel
theorem dX8_clear_2 : decode cX8_clear 2 = .ok (.putfield 60, 3) := by decide +kernel
theorem dX8_clear_5 : decode cX8_clear 5 = .ok (.aload_n 0, 1) := by decide +kernel
theorem dX8_clear_6 : decode cX8_clear 6 = .ok (.getfield 67, 3) := by decide +kernel
theorem dX8_clear_9 : decode cX8_clear 9 = .ok (.istore_n 1, 1) := by decide +kernel
theorem dX8_clear_10 : decode cX8_clear 10 = .ok (.aload_n 0, 1) := by decide +kernel
theorem dX8_clear_11 : decode cX8_clear 11 = .ok (.iconst 0, 1) := by decide +kernel
theorem dX8_clear_12 : decode cX8_clear 12 = .ok (.putfield 67, 3) := by decide +kernel
theorem dX8_clear_15 : decode cX8_clear 15 = .ok (.iload_n 1, 1) := by decide +kernel
theorem dX8_clear_16 : decode cX8_clear 16 = .ok (.ireturn, 1) := by decide +kernel
theorem dX8_isFigure_0 : decode cX8_isFigure 0 = .ok (.iload_n 1, 1) := by decide +kernel
theorem dX8_isFigure_1 : decode cX8_isFigure 1 = .ok (.aload_n 0, 1) := by decide +kernel
theorem dX8_isFigure_2 : decode cX8_isFigure 2 = .ok (.getfield 67, 3) := by decide +kernel
theorem dX8_isFigure_5 : decode cX8_isFigure 5 = .ok (.if_icmp .ge 23, 3) := by decide +kernel
theorem dX8_isFigure_8 : decode cX8_isFigure 8 = .ok (.aload_n 0, 1) := by decide +kernel
theorem dX8_isFigure_9 : decode cX8_isFigure 9 = .ok (.getfield 32, 3) := by decide +kernel
theorem dX8_isFigure_12 : decode cX8_isFigure 12 = .ok (.iload_n 1, 1) := by decide +kernel
theorem dX8_isFigure_13 : decode cX8_isFigure 13 = .ok (.iaload, 1) := by decide +kernel
theorem dX8_isFigure_14 : decode cX8_isFigure 14 = .ok (.bipush 48, 2) := by decide +kernel
theorem dX8_isFigure_16 : decode cX8_isFigure 16 = .ok (.bipush 57, 2) := by decide +kernel
theorem dX8_isFigure_18 : decode cX8_isFigure 18 = .ok (.invokestatic 63, 3) := by decide +kernel
theorem dX8_isFigure_21 : decode cX8_isFigure 21 = .ok (.ifCond .eq 7, 3) := by decide +kernel
theorem dX8_isFigure_24 : decode cX8_isFigure 24 = .ok (.iconst 1, 1) := by decide +kernel
theorem dX8_isFigure_25 : decode cX8_isFigure 25 = .ok (.goto 4, 3) := by decide +kernel
theorem dX8_isFigure_28 : decode cX8_isFigure 28 = .ok (.iconst 0, 1) := by decide +kernel
theorem dX8_isFigure_29 : decode cX8_isFigure 29 = .ok (.ireturn, 1) := by decide +kernel
theorem dX8_takes_0 : decode cX8_takes 0 = .ok (.aload_n 0, 1) := by decide +kernel
theorem dX8_takes_1 : decode cX8_takes 1 = .ok (.getfield 70, 3) := by decide +kernel
theorem dX8_takes_4 : decode cX8_takes 4 = .ok (.aload_n 0, 1) := by decide +kernel
theorem dX8_takes_5 : decode cX8_takes 5 = .ok (.getfield 67, 3) := by decide +kernel
theorem dX8_takes_8 : decode cX8_takes 8 = .ok (.if_icmp .ge 30, 3) := by decide +kernel
theorem dX8_takes_11 : decode cX8_takes 11 = .ok (.aload_n 0, 1) := by decide +kernel
theorem dX8_takes_12 : decode cX8_takes 12 = .ok (.getfield 32, 3) := by decide +kernel
theorem dX8_takes_15 : decode cX8_takes 15 = .ok (.aload_n 0, 1) := by decide +kernel
theorem dX8_takes_16 : decode cX8_takes 16 = .ok (.getfield 70, 3) := by decide +kernel
theorem dX8_takes_19 : decode cX8_takes 19 = .ok (.iaload, 1) := by decide +kernel
theorem dX8_takes_20 : decode cX8_takes 20 = .ok (.bipush 32, 2) := by decide +kernel
theorem dX8_takes_22 : decode cX8_takes 22 = .ok (.if_icmp .ne 16, 3) := by decide +kernel
theorem dX8_takes_25 : decode cX8_takes 25 = .ok (.aload_n 0, 1) := by decide +kernel
theorem dX8_takes_26 : decode cX8_takes 26 = .ok (.dup, 1) := by decide +kernel
theorem dX8_takes_27 : decode cX8_takes 27 = .ok (.getfield 70, 3) := by decide +kernel
theorem dX8_takes_30 : decode cX8_takes 30 = .ok (.iconst 1, 1) := by decide +kernel
theorem dX8_takes_31 : decode cX8_takes 31 = .ok (.iadd, 1) := by decide +kernel
theorem dX8_takes_32 : decode cX8_takes 32 = .ok (.putfield 70, 3) := by decide +kernel
theorem dX8_takes_35 : decode cX8_takes 35 = .ok (.goto (-35), 3) := by decide +kernel
theorem dX8_takes_38 : decode cX8_takes 38 = .ok (.aload_n 0, 1) := by decide +kernel
theorem dX8_takes_39 : decode cX8_takes 39 = .ok (.aload_n 0, 1) := by decide +kernel
theorem dX8_takes_40 : decode cX8_takes 40 = .ok (.getfield 70, 3) := by decide +kernel
theorem dX8_takes_43 : decode cX8_takes 43 = .ok (.putfield 73, 3) := by decide +kernel
theorem dX8_takes_46 : decode cX8_takes 46 = .ok (.aload_n 0, 1) := by decide +kernel
theorem dX8_takes_47 : decode cX8_takes 47 = .ok (.aload_n 0, 1) := by decide +kernel
theorem dX8_takes_48 : decode cX8_takes 48 = .ok (.getfield 70, 3) := by decide +kernel
theorem dX8_takes_51 : decode cX8_takes 51 = .ok (.aload_n 0, 1) := by decide +kernel
theorem dX8_takes_52 : decode cX8_takes 52 = .ok (.getfield 67, 3) := by decide +kernel
theorem dX8_takes_55 : decode cX8_takes 55 = .ok (.if_icmp .ge 15, 3) := by decide +kernel
theorem dX8_takes_58 : decode cX8_takes 58 = .ok (.aload_n 0, 1) := by decide +kernel
theorem dX8_takes_59 : decode cX8_takes 59 = .ok (.getfield 32, 3) := by decide +kernel
theorem dX8_takes_62 : decode cX8_takes 62 = .ok (.aload_n 0, 1) := by decide +kernel
theorem dX8_takes_63 : decode cX8_takes 63 = .ok (.getfield 70, 3) := by decide +kernel
theorem dX8_takes_66 : decode cX8_takes 66 = .ok (.iaload, 1) := by decide +kernel
theorem dX8_takes_67 : decode cX8_takes 67 = .ok (.goto 4, 3) := by decide +kernel
theorem dX8_takes_70 : decode cX8_takes 70 = .ok (.iconst (-1), 1) := by decide +kernel
theorem dX8_takes_71 : decode cX8_takes 71 = .ok (.putfield 76, 3) := by decide +kernel
theorem dX8_takes_74 : decode cX8_takes 74 = .ok (.aload_n 0, 1) := by decide +kernel
theorem dX8_takes_75 : decode cX8_takes 75 = .ok (.aload_n 0, 1) := by decide +kernel
theorem dX8_takes_76 : decode cX8_takes 76 = .ok (.getfield 70, 3) := by decide +kernel
theorem dX8_takes_79 : decode cX8_takes 79 = .ok (.invokevirtual 79, 3) := by decide +kernel
theorem dX8_takes_82 : decode cX8_takes 82 = .ok (.ifCond .ne 29, 3) := by decide +kernel
theorem dX8_takes_85 : decode cX8_takes 85 = .ok (.aload_n 0, 1) := by decide +kernel
theorem dX8_takes_86 : decode cX8_takes 86 = .ok (.dup, 1) := by decide +kernel
theorem dX8_takes_87 : decode cX8_takes 87 = .ok (.getfield 70, 3) := by decide +kernel
theorem dX8_takes_90 : decode cX8_takes 90 = .ok (.aload_n 0, 1) := by decide +kernel
theorem dX8_takes_91 : decode cX8_takes 91 = .ok (.getfield 70, 3) := by decide +kernel
theorem dX8_takes_94 : decode cX8_takes 94 = .ok (.aload_n 0, 1) := by decide +kernel
theorem dX8_takes_95 : decode cX8_takes 95 = .ok (.getfield 67, 3) := by decide +kernel
theorem dX8_takes_98 : decode cX8_takes 98 = .ok (.if_icmp .ge 7, 3) := by decide +kernel
theorem dX8_takes_101 : decode cX8_takes 101 = .ok (.iconst 1, 1) := by decide +kernel
theorem dX8_takes_102 : decode cX8_takes 102 = .ok (.goto 4, 3) := by decide +kernel
theorem dX8_takes_105 : decode cX8_takes 105 = .ok (.iconst 0, 1) := by decide +kernel
theorem dX8_takes_106 : decode cX8_takes 106 = .ok (.iadd, 1) := by decide +kernel
theorem dX8_takes_107 : decode cX8_takes 107 = .ok (.putfield 70, 3) := by decide +kernel
theorem dX8_takes_110 : decode cX8_takes 110 = .ok (.return_, 1) := by decide +kernel
theorem dX8_takes_111 : decode cX8_takes 111 = .ok (.aload_n 0, 1) := by decide +kernel
theorem dX8_takes_112 : decode cX8_takes 112 = .ok (.aload_n 0, 1) := by decide +kernel
theorem dX8_takes_113 : decode cX8_takes 113 = .ok (.getfield 70, 3) := by decide +kernel
theorem dX8_takes_116 : decode cX8_takes 116 = .ok (.invokevirtual 79, 3) := by decide +kernel
theorem dX8_takes_119 : decode cX8_takes 119 = .ok (.ifCond .eq 16, 3) := by decide +kernel
theorem dX8_takes_122 : decode cX8_takes 122 = .ok (.aload_n 0, 1) := by decide +kernel
theorem dX8_takes_123 : decode cX8_takes 123 = .ok (.dup, 1) := by decide +kernel
theorem dX8_takes_124 : decode cX8_takes 124 = .ok (.getfield 70, 3) := by decide +kernel
theorem dX8_takes_127 : decode cX8_takes 127 = .ok (.iconst 1, 1) := by decide +kernel
theorem dX8_takes_128 : decode cX8_takes 128 = .ok (.iadd, 1) := by decide +kernel
theorem dX8_takes_129 : decode cX8_takes 129 = .ok (.putfield 70, 3) := by decide +kernel
theorem dX8_takes_132 : decode cX8_takes 132 = .ok (.goto (-21), 3) := by decide +kernel
theorem dX8_takes_135 : decode cX8_takes 135 = .ok (.aload_n 0, 1) := by decide +kernel
theorem dX8_takes_136 : decode cX8_takes 136 = .ok (.aload_n 0, 1) := by decide +kernel
theorem dX8_takes_137 : decode cX8_takes 137 = .ok (.getfield 70, 3) := by decide +kernel
theorem dX8_takes_140 : decode cX8_takes 140 = .ok (.aload_n 0, 1) := by decide +kernel
theorem dX8_takes_141 : decode cX8_takes 141 = .ok (.getfield 73, 3) := by decide +kernel
theorem dX8_takes_144 : decode cX8_takes 144 = .ok (.iconst 1, 1) := by decide +kernel
theorem dX8_takes_145 : decode cX8_takes 145 = .ok (.iadd, 1) := by decide +kernel
theorem dX8_takes_146 : decode cX8_takes 146 = .ok (.if_icmp .le 9, 3) := by decide +kernel
theorem dX8_takes_149 : decode cX8_takes 149 = .ok (.sipush 2000, 3) := by decide +kernel
theorem dX8_takes_152 : decode cX8_takes 152 = .ok (.goto 19, 3) := by decide +kernel
theorem dX8_takes_155 : decode cX8_takes 155 = .ok (.sipush 1000, 3) := by decide +kernel
theorem dX8_takes_158 : decode cX8_takes 158 = .ok (.aload_n 0, 1) := by decide +kernel
theorem dX8_takes_159 : decode cX8_takes 159 = .ok (.getfield 32, 3) := by decide +kernel
theorem dX8_takes_162 : decode cX8_takes 162 = .ok (.aload_n 0, 1) := by decide +kernel
theorem dX8_takes_163 : decode cX8_takes 163 = .ok (.getfield 73, 3) := by decide +kernel
theorem dX8_takes_166 : decode cX8_takes 166 = .ok (.iaload, 1) := by decide +kernel
theorem dX8_takes_167 : decode cX8_takes 167 = .ok (.iadd, 1) := by decide +kernel
theorem dX8_takes_168 : decode cX8_takes 168 = .ok (.bipush 48, 2) := by decide +kernel
theorem dX8_takes_170 : decode cX8_takes 170 = .ok (.isub, 1) := by decide +kernel
theorem dX8_takes_171 : decode cX8_takes 171 = .ok (.putfield 76, 3) := by decide +kernel
theorem dX8_takes_174 : decode cX8_takes 174 = .ok (.return_, 1) := by decide +kernel
theorem dX8_readsArc_0 : decode cX8_readsArc 0 = .ok (.aload_n 0, 1) := by decide +kernel
theorem dX8_readsArc_1 : decode cX8_readsArc 1 = .ok (.getfield 83, 3) := by decide +kernel
theorem dX8_readsArc_4 : decode cX8_readsArc 4 = .ok (.iconst 4, 1) := by decide +kernel
theorem dX8_readsArc_5 : decode cX8_readsArc 5 = .ok (.if_icmp .ne 5, 3) := by decide +kernel
theorem dX8_readsArc_8 : decode cX8_readsArc 8 = .ok (.iconst 0, 1) := by decide +kernel
theorem dX8_readsArc_9 : decode cX8_readsArc 9 = .ok (.ireturn, 1) := by decide +kernel
theorem dX8_readsArc_10 : decode cX8_readsArc 10 = .ok (.iconst 0, 1) := by decide +kernel
theorem dX8_readsArc_11 : decode cX8_readsArc 11 = .ok (.istore_n 1, 1) := by decide +kernel
theorem dX8_readsArc_12 : decode cX8_readsArc 12 = .ok (.iload_n 1, 1) := by decide +kernel
theorem dX8_readsArc_13 : decode cX8_readsArc 13 = .ok (.bipush 8, 2) := by decide +kernel
theorem dX8_readsArc_15 : decode cX8_readsArc 15 = .ok (.if_icmp .ge 91, 3) := by decide +kernel
theorem dX8_readsArc_18 : decode cX8_readsArc 18 = .ok (.aload_n 0, 1) := by decide +kernel
theorem dX8_readsArc_19 : decode cX8_readsArc 19 = .ok (.invokevirtual 86, 3) := by decide +kernel
theorem dX8_readsArc_22 : decode cX8_readsArc 22 = .ok (.aload_n 0, 1) := by decide +kernel
theorem dX8_readsArc_23 : decode cX8_readsArc 23 = .ok (.getfield 76, 3) := by decide +kernel
theorem dX8_readsArc_26 : decode cX8_readsArc 26 = .ok (.bipush 45, 2) := by decide +kernel
theorem dX8_readsArc_28 : decode cX8_readsArc 28 = .ok (.if_icmp .ne 7, 3) := by decide +kernel
theorem dX8_readsArc_31 : decode cX8_readsArc 31 = .ok (.iconst 1, 1) := by decide +kernel
theorem dX8_readsArc_32 : decode cX8_readsArc 32 = .ok (.goto 4, 3) := by decide +kernel
theorem dX8_readsArc_35 : decode cX8_readsArc 35 = .ok (.iconst 0, 1) := by decide +kernel
theorem dX8_readsArc_36 : decode cX8_readsArc 36 = .ok (.istore_n 2, 1) := by decide +kernel
theorem dX8_readsArc_37 : decode cX8_readsArc 37 = .ok (.iload_n 2, 1) := by decide +kernel
theorem dX8_readsArc_38 : decode cX8_readsArc 38 = .ok (.ifCond .eq 7, 3) := by decide +kernel
theorem dX8_readsArc_41 : decode cX8_readsArc 41 = .ok (.aload_n 0, 1) := by decide +kernel
theorem dX8_readsArc_42 : decode cX8_readsArc 42 = .ok (.invokevirtual 86, 3) := by decide +kernel
theorem dX8_readsArc_45 : decode cX8_readsArc 45 = .ok (.aload_n 0, 1) := by decide +kernel
theorem dX8_readsArc_46 : decode cX8_readsArc 46 = .ok (.getfield 76, 3) := by decide +kernel
theorem dX8_readsArc_49 : decode cX8_readsArc 49 = .ok (.sipush 1000, 3) := by decide +kernel
theorem dX8_readsArc_52 : decode cX8_readsArc 52 = .ok (.sipush 1009, 3) := by decide +kernel
theorem dX8_readsArc_55 : decode cX8_readsArc 55 = .ok (.invokestatic 63, 3) := by decide +kernel
theorem dX8_readsArc_58 : decode cX8_readsArc 58 = .ok (.ifCond .ne 5, 3) := by decide +kernel
theorem dX8_readsArc_61 : decode cX8_readsArc 61 = .ok (.iconst 0, 1) := by decide +kernel
theorem dX8_readsArc_62 : decode cX8_readsArc 62 = .ok (.ireturn, 1) := by decide +kernel
theorem dX8_readsArc_63 : decode cX8_readsArc 63 = .ok (.aload_n 0, 1) := by decide +kernel
theorem dX8_readsArc_64 : decode cX8_readsArc 64 = .ok (.getfield 35, 3) := by decide +kernel
theorem dX8_readsArc_67 : decode cX8_readsArc 67 = .ok (.bipush 8, 2) := by decide +kernel
theorem dX8_readsArc_69 : decode cX8_readsArc 69 = .ok (.aload_n 0, 1) := by decide +kernel
theorem dX8_readsArc_70 : decode cX8_readsArc 70 = .ok (.getfield 83, 3) := by decide +kernel
theorem dX8_readsArc_73 : decode cX8_readsArc 73 = .ok (.imul, 1) := by decide +kernel
theorem dX8_readsArc_74 : decode cX8_readsArc 74 = .ok (.iload_n 1, 1) := by decide +kernel
theorem dX8_readsArc_75 : decode cX8_readsArc 75 = .ok (.iadd, 1) := by decide +kernel
theorem dX8_readsArc_76 : decode cX8_readsArc 76 = .ok (.iload_n 2, 1) := by decide +kernel
theorem dX8_readsArc_77 : decode cX8_readsArc 77 = .ok (.ifCond .eq 14, 3) := by decide +kernel
theorem dX8_readsArc_80 : decode cX8_readsArc 80 = .ok (.sipush 1000, 3) := by decide +kernel
theorem dX8_readsArc_83 : decode cX8_readsArc 83 = .ok (.aload_n 0, 1) := by decide +kernel
theorem dX8_readsArc_84 : decode cX8_readsArc 84 = .ok (.getfield 76, 3) := by decide +kernel
theorem dX8_readsArc_87 : decode cX8_readsArc 87 = .ok (.isub, 1) := by decide +kernel
theorem dX8_readsArc_88 : decode cX8_readsArc 88 = .ok (.goto 11, 3) := by decide +kernel
theorem dX8_readsArc_91 : decode cX8_readsArc 91 = .ok (.aload_n 0, 1) := by decide +kernel
theorem dX8_readsArc_92 : decode cX8_readsArc 92 = .ok (.getfield 76, 3) := by decide +kernel
theorem dX8_readsArc_95 : decode cX8_readsArc 95 = .ok (.sipush 1000, 3) := by decide +kernel
theorem dX8_readsArc_98 : decode cX8_readsArc 98 = .ok (.isub, 1) := by decide +kernel
theorem dX8_readsArc_99 : decode cX8_readsArc 99 = .ok (.iastore, 1) := by decide +kernel
theorem dX8_readsArc_100 : decode cX8_readsArc 100 = .ok (.iinc 1 1, 3) := by decide +kernel
theorem dX8_readsArc_103 : decode cX8_readsArc 103 = .ok (.goto (-91), 3) := by decide +kernel
theorem dX8_readsArc_106 : decode cX8_readsArc 106 = .ok (.aload_n 0, 1) := by decide +kernel
theorem dX8_readsArc_107 : decode cX8_readsArc 107 = .ok (.dup, 1) := by decide +kernel
theorem dX8_readsArc_108 : decode cX8_readsArc 108 = .ok (.getfield 83, 3) := by decide +kernel
theorem dX8_readsArc_111 : decode cX8_readsArc 111 = .ok (.iconst 1, 1) := by decide +kernel
theorem dX8_readsArc_112 : decode cX8_readsArc 112 = .ok (.iadd, 1) := by decide +kernel
theorem dX8_readsArc_113 : decode cX8_readsArc 113 = .ok (.putfield 83, 3) := by decide +kernel
theorem dX8_readsArc_116 : decode cX8_readsArc 116 = .ok (.iconst 1, 1) := by decide +kernel
theorem dX8_readsArc_117 : decode cX8_readsArc 117 = .ok (.ireturn, 1) := by decide +kernel
theorem dX8_arcs_0 : decode cX8_arcs 0 = .ok (.aload_n 0, 1) := by decide +kernel
theorem dX8_arcs_1 : decode cX8_arcs 1 = .ok (.iconst 0, 1) := by decide +kernel
theorem dX8_arcs_2 : decode cX8_arcs 2 = .ok (.putfield 60, 3) := by decide +kernel
theorem dX8_arcs_5 : decode cX8_arcs 5 = .ok (.aload_n 0, 1) := by decide +kernel
theorem dX8_arcs_6 : decode cX8_arcs 6 = .ok (.iconst 0, 1) := by decide +kernel
theorem dX8_arcs_7 : decode cX8_arcs 7 = .ok (.putfield 83, 3) := by decide +kernel
theorem dX8_arcs_10 : decode cX8_arcs 10 = .ok (.aload_n 0, 1) := by decide +kernel
theorem dX8_arcs_11 : decode cX8_arcs 11 = .ok (.iconst 0, 1) := by decide +kernel
theorem dX8_arcs_12 : decode cX8_arcs 12 = .ok (.putfield 70, 3) := by decide +kernel
theorem dX8_arcs_15 : decode cX8_arcs 15 = .ok (.aload_n 0, 1) := by decide +kernel
theorem dX8_arcs_16 : decode cX8_arcs 16 = .ok (.invokevirtual 86, 3) := by decide +kernel
theorem dX8_arcs_19 : decode cX8_arcs 19 = .ok (.aload_n 0, 1) := by decide +kernel
theorem dX8_arcs_20 : decode cX8_arcs 20 = .ok (.getfield 76, 3) := by decide +kernel
theorem dX8_arcs_23 : decode cX8_arcs 23 = .ok (.iconst (-1), 1) := by decide +kernel
theorem dX8_arcs_24 : decode cX8_arcs 24 = .ok (.if_icmp .eq 61, 3) := by decide +kernel
theorem dX8_arcs_27 : decode cX8_arcs 27 = .ok (.aload_n 0, 1) := by decide +kernel
theorem dX8_arcs_28 : decode cX8_arcs 28 = .ok (.getfield 76, 3) := by decide +kernel
theorem dX8_arcs_31 : decode cX8_arcs 31 = .ok (.bipush 97, 2) := by decide +kernel
theorem dX8_arcs_33 : decode cX8_arcs 33 = .ok (.if_icmp .ne 14, 3) := by decide +kernel
theorem dX8_arcs_36 : decode cX8_arcs 36 = .ok (.aload_n 0, 1) := by decide +kernel
theorem dX8_arcs_37 : decode cX8_arcs 37 = .ok (.invokevirtual 89, 3) := by decide +kernel
theorem dX8_arcs_40 : decode cX8_arcs 40 = .ok (.ifCond .eq 7, 3) := by decide +kernel
theorem dX8_arcs_43 : decode cX8_arcs 43 = .ok (.iconst 1, 1) := by decide +kernel
theorem dX8_arcs_44 : decode cX8_arcs 44 = .ok (.goto 4, 3) := by decide +kernel
theorem dX8_arcs_47 : decode cX8_arcs 47 = .ok (.iconst 0, 1) := by decide +kernel
theorem dX8_arcs_48 : decode cX8_arcs 48 = .ok (.istore_n 1, 1) := by decide +kernel
theorem dX8_arcs_49 : decode cX8_arcs 49 = .ok (.iload_n 1, 1) := by decide +kernel
theorem dX8_arcs_50 : decode cX8_arcs 50 = .ok (.ifCond .eq 7, 3) := by decide +kernel
theorem dX8_arcs_53 : decode cX8_arcs 53 = .ok (.aload_n 0, 1) := by decide +kernel
theorem dX8_arcs_54 : decode cX8_arcs 54 = .ok (.invokevirtual 86, 3) := by decide +kernel
theorem dX8_arcs_57 : decode cX8_arcs 57 = .ok (.iload_n 1, 1) := by decide +kernel
theorem dX8_arcs_58 : decode cX8_arcs 58 = .ok (.ifCond .eq 12, 3) := by decide +kernel
theorem dX8_arcs_61 : decode cX8_arcs 61 = .ok (.aload_n 0, 1) := by decide +kernel
theorem dX8_arcs_62 : decode cX8_arcs 62 = .ok (.getfield 76, 3) := by decide +kernel
theorem dX8_arcs_65 : decode cX8_arcs 65 = .ok (.bipush 59, 2) := by decide +kernel
theorem dX8_arcs_67 : decode cX8_arcs 67 = .ok (.if_icmp .eq 11, 3) := by decide +kernel
theorem dX8_arcs_70 : decode cX8_arcs 70 = .ok (.bipush (-10), 2) := by decide +kernel
theorem dX8_arcs_72 : decode cX8_arcs 72 = .ok (.aload_n 0, 1) := by decide +kernel
theorem dX8_arcs_73 : decode cX8_arcs 73 = .ok (.getfield 73, 3) := by decide +kernel
theorem dX8_arcs_76 : decode cX8_arcs 76 = .ok (.isub, 1) := by decide +kernel
theorem dX8_arcs_77 : decode cX8_arcs 77 = .ok (.ireturn, 1) := by decide +kernel
theorem dX8_arcs_78 : decode cX8_arcs 78 = .ok (.aload_n 0, 1) := by decide +kernel
theorem dX8_arcs_79 : decode cX8_arcs 79 = .ok (.invokevirtual 86, 3) := by decide +kernel
theorem dX8_arcs_82 : decode cX8_arcs 82 = .ok (.goto (-63), 3) := by decide +kernel
theorem dX8_arcs_85 : decode cX8_arcs 85 = .ok (.iconst 0, 1) := by decide +kernel
theorem dX8_arcs_86 : decode cX8_arcs 86 = .ok (.istore_n 1, 1) := by decide +kernel
theorem dX8_arcs_87 : decode cX8_arcs 87 = .ok (.iload_n 1, 1) := by decide +kernel
theorem dX8_arcs_88 : decode cX8_arcs 88 = .ok (.bipush 32, 2) := by decide +kernel
theorem dX8_arcs_90 : decode cX8_arcs 90 = .ok (.if_icmp .ge 21, 3) := by decide +kernel
theorem dX8_arcs_93 : decode cX8_arcs 93 = .ok (.aload_n 0, 1) := by decide +kernel
theorem dX8_arcs_94 : decode cX8_arcs 94 = .ok (.getfield 7, 3) := by decide +kernel
theorem dX8_arcs_97 : decode cX8_arcs 97 = .ok (.iload_n 1, 1) := by decide +kernel
theorem dX8_arcs_98 : decode cX8_arcs 98 = .ok (.aload_n 0, 1) := by decide +kernel
theorem dX8_arcs_99 : decode cX8_arcs 99 = .ok (.getfield 35, 3) := by decide +kernel
theorem dX8_arcs_102 : decode cX8_arcs 102 = .ok (.iload_n 1, 1) := by decide +kernel
theorem dX8_arcs_103 : decode cX8_arcs 103 = .ok (.iaload, 1) := by decide +kernel
theorem dX8_arcs_104 : decode cX8_arcs 104 = .ok (.iastore, 1) := by decide +kernel
theorem dX8_arcs_105 : decode cX8_arcs 105 = .ok (.iinc 1 1, 3) := by decide +kernel
theorem dX8_arcs_108 : decode cX8_arcs 108 = .ok (.goto (-21), 3) := by decide +kernel
theorem dX8_arcs_111 : decode cX8_arcs 111 = .ok (.aload_n 0, 1) := by decide +kernel
theorem dX8_arcs_112 : decode cX8_arcs 112 = .ok (.aload_n 0, 1) := by decide +kernel
theorem dX8_arcs_113 : decode cX8_arcs 113 = .ok (.getfield 83, 3) := by decide +kernel
theorem dX8_arcs_116 : decode cX8_arcs 116 = .ok (.putfield 56, 3) := by decide +kernel
theorem dX8_arcs_119 : decode cX8_arcs 119 = .ok (.aload_n 0, 1) := by decide +kernel
theorem dX8_arcs_120 : decode cX8_arcs 120 = .ok (.iconst 0, 1) := by decide +kernel
theorem dX8_arcs_121 : decode cX8_arcs 121 = .ok (.putfield 93, 3) := by decide +kernel
theorem dX8_arcs_124 : decode cX8_arcs 124 = .ok (.aload_n 0, 1) := by decide +kernel
theorem dX8_arcs_125 : decode cX8_arcs 125 = .ok (.iconst 0, 1) := by decide +kernel
theorem dX8_arcs_126 : decode cX8_arcs 126 = .ok (.putfield 97, 3) := by decide +kernel
theorem dX8_arcs_129 : decode cX8_arcs 129 = .ok (.aload_n 0, 1) := by decide +kernel
theorem dX8_arcs_130 : decode cX8_arcs 130 = .ok (.iconst 0, 1) := by decide +kernel
theorem dX8_arcs_131 : decode cX8_arcs 131 = .ok (.putfield 100, 3) := by decide +kernel
theorem dX8_arcs_134 : decode cX8_arcs 134 = .ok (.aload_n 0, 1) := by decide +kernel
theorem dX8_arcs_135 : decode cX8_arcs 135 = .ok (.getfield 19, 3) := by decide +kernel
theorem dX8_arcs_138 : decode cX8_arcs 138 = .ok (.iconst 0, 1) := by decide +kernel
theorem dX8_arcs_139 : decode cX8_arcs 139 = .ok (.iconst 0, 1) := by decide +kernel
theorem dX8_arcs_140 : decode cX8_arcs 140 = .ok (.bastore, 1) := by decide +kernel
theorem dX8_arcs_141 : decode cX8_arcs 141 = .ok (.aload_n 0, 1) := by decide +kernel
theorem dX8_arcs_142 : decode cX8_arcs 142 = .ok (.getfield 19, 3) := by decide +kernel
theorem dX8_arcs_145 : decode cX8_arcs 145 = .ok (.iconst 1, 1) := by decide +kernel
theorem dX8_arcs_146 : decode cX8_arcs 146 = .ok (.iconst 0, 1) := by decide +kernel
theorem dX8_arcs_147 : decode cX8_arcs 147 = .ok (.bastore, 1) := by decide +kernel
theorem dX8_arcs_148 : decode cX8_arcs 148 = .ok (.aload_n 0, 1) := by decide +kernel
theorem dX8_arcs_149 : decode cX8_arcs 149 = .ok (.iconst 0, 1) := by decide +kernel
theorem dX8_arcs_150 : decode cX8_arcs 150 = .ok (.putfield 67, 3) := by decide +kernel
theorem dX8_arcs_153 : decode cX8_arcs 153 = .ok (.aload_n 0, 1) := by decide +kernel
theorem dX8_arcs_154 : decode cX8_arcs 154 = .ok (.getfield 56, 3) := by decide +kernel
theorem dX8_arcs_157 : decode cX8_arcs 157 = .ok (.ireturn, 1) := by decide +kernel
theorem dX8_placeOf_0 : decode cX8_placeOf 0 = .ok (.bipush 32, 2) := by decide +kernel
theorem dX8_placeOf_2 : decode cX8_placeOf 2 = .ok (.iload_n 3, 1) := by decide +kernel
theorem dX8_placeOf_3 : decode cX8_placeOf 3 = .ok (.isub, 1) := by decide +kernel
theorem dX8_placeOf_4 : decode cX8_placeOf 4 = .ok (.istore 6, 2) := by decide +kernel
theorem dX8_placeOf_6 : decode cX8_placeOf 6 = .ok (.bipush 32, 2) := by decide +kernel
theorem dX8_placeOf_8 : decode cX8_placeOf 8 = .ok (.iload 4, 2) := by decide +kernel
theorem dX8_placeOf_10 : decode cX8_placeOf 10 = .ok (.isub, 1) := by decide +kernel
theorem dX8_placeOf_11 : decode cX8_placeOf 11 = .ok (.istore 7, 2) := by decide +kernel
theorem dX8_placeOf_13 : decode cX8_placeOf 13 = .ok (.bipush 32, 2) := by decide +kernel
theorem dX8_placeOf_15 : decode cX8_placeOf 15 = .ok (.iload 5, 2) := by decide +kernel
theorem dX8_placeOf_17 : decode cX8_placeOf 17 = .ok (.isub, 1) := by decide +kernel
theorem dX8_placeOf_18 : decode cX8_placeOf 18 = .ok (.istore 8, 2) := by decide +kernel
theorem dX8_placeOf_20 : decode cX8_placeOf 20 = .ok (.bipush 8, 2) := by decide +kernel
theorem dX8_placeOf_22 : decode cX8_placeOf 22 = .ok (.iload_n 1, 1) := by decide +kernel
theorem dX8_placeOf_23 : decode cX8_placeOf 23 = .ok (.imul, 1) := by decide +kernel
theorem dX8_placeOf_24 : decode cX8_placeOf 24 = .ok (.iload_n 2, 1) := by decide +kernel
theorem dX8_placeOf_25 : decode cX8_placeOf 25 = .ok (.iadd, 1) := by decide +kernel
theorem dX8_placeOf_26 : decode cX8_placeOf 26 = .ok (.istore 9, 2) := by decide +kernel
theorem dX8_placeOf_28 : decode cX8_placeOf 28 = .ok (.aload_n 0, 1) := by decide +kernel
theorem dX8_placeOf_29 : decode cX8_placeOf 29 = .ok (.getfield 7, 3) := by decide +kernel
theorem dX8_placeOf_32 : decode cX8_placeOf 32 = .ok (.iload 9, 2) := by decide +kernel
theorem dX8_placeOf_34 : decode cX8_placeOf 34 = .ok (.iaload, 1) := by decide +kernel
theorem dX8_placeOf_35 : decode cX8_placeOf 35 = .ok (.iload 6, 2) := by decide +kernel
theorem dX8_placeOf_37 : decode cX8_placeOf 37 = .ok (.imul, 1) := by decide +kernel
theorem dX8_placeOf_38 : decode cX8_placeOf 38 = .ok (.iload 7, 2) := by decide +kernel
theorem dX8_placeOf_40 : decode cX8_placeOf 40 = .ok (.imul, 1) := by decide +kernel
theorem dX8_placeOf_41 : decode cX8_placeOf 41 = .ok (.iload 8, 2) := by decide +kernel
theorem dX8_placeOf_43 : decode cX8_placeOf 43 = .ok (.imul, 1) := by decide +kernel
theorem dX8_placeOf_44 : decode cX8_placeOf 44 = .ok (.aload_n 0, 1) := by decide +kernel
theorem dX8_placeOf_45 : decode cX8_placeOf 45 = .ok (.getfield 7, 3) := by decide +kernel
theorem dX8_placeOf_48 : decode cX8_placeOf 48 = .ok (.iload 9, 2) := by decide +kernel
theorem dX8_placeOf_50 : decode cX8_placeOf 50 = .ok (.iconst 2, 1) := by decide +kernel
theorem dX8_placeOf_51 : decode cX8_placeOf 51 = .ok (.iadd, 1) := by decide +kernel
theorem dX8_placeOf_52 : decode cX8_placeOf 52 = .ok (.iaload, 1) := by decide +kernel
theorem dX8_placeOf_53 : decode cX8_placeOf 53 = .ok (.iload_n 3, 1) := by decide +kernel
theorem dX8_placeOf_54 : decode cX8_placeOf 54 = .ok (.iload 7, 2) := by decide +kernel
theorem dX8_placeOf_56 : decode cX8_placeOf 56 = .ok (.imul, 1) := by decide +kernel
theorem dX8_placeOf_57 : decode cX8_placeOf 57 = .ok (.iload 8, 2) := by decide +kernel
theorem dX8_placeOf_59 : decode cX8_placeOf 59 = .ok (.imul, 1) := by decide +kernel
theorem dX8_placeOf_60 : decode cX8_placeOf 60 = .ok (.iload 6, 2) := by decide +kernel
theorem dX8_placeOf_62 : decode cX8_placeOf 62 = .ok (.iload 4, 2) := by decide +kernel
theorem dX8_placeOf_64 : decode cX8_placeOf 64 = .ok (.imul, 1) := by decide +kernel
theorem dX8_placeOf_65 : decode cX8_placeOf 65 = .ok (.iload 8, 2) := by decide +kernel
theorem dX8_placeOf_67 : decode cX8_placeOf 67 = .ok (.imul, 1) := by decide +kernel
theorem dX8_placeOf_68 : decode cX8_placeOf 68 = .ok (.iadd, 1) := by decide +kernel
theorem dX8_placeOf_69 : decode cX8_placeOf 69 = .ok (.iload 6, 2) := by decide +kernel
theorem dX8_placeOf_71 : decode cX8_placeOf 71 = .ok (.iload 7, 2) := by decide +kernel
theorem dX8_placeOf_73 : decode cX8_placeOf 73 = .ok (.imul, 1) := by decide +kernel
theorem dX8_placeOf_74 : decode cX8_placeOf 74 = .ok (.iload 5, 2) := by decide +kernel
theorem dX8_placeOf_76 : decode cX8_placeOf 76 = .ok (.imul, 1) := by decide +kernel
theorem dX8_placeOf_77 : decode cX8_placeOf 77 = .ok (.iadd, 1) := by decide +kernel
theorem dX8_placeOf_78 : decode cX8_placeOf 78 = .ok (.imul, 1) := by decide +kernel
theorem dX8_placeOf_79 : decode cX8_placeOf 79 = .ok (.iadd, 1) := by decide +kernel
theorem dX8_placeOf_80 : decode cX8_placeOf 80 = .ok (.aload_n 0, 1) := by decide +kernel
theorem dX8_placeOf_81 : decode cX8_placeOf 81 = .ok (.getfield 7, 3) := by decide +kernel
theorem dX8_placeOf_84 : decode cX8_placeOf 84 = .ok (.iload 9, 2) := by decide +kernel
theorem dX8_placeOf_86 : decode cX8_placeOf 86 = .ok (.iconst 4, 1) := by decide +kernel
theorem dX8_placeOf_87 : decode cX8_placeOf 87 = .ok (.iadd, 1) := by decide +kernel
theorem dX8_placeOf_88 : decode cX8_placeOf 88 = .ok (.iaload, 1) := by decide +kernel
theorem dX8_placeOf_89 : decode cX8_placeOf 89 = .ok (.iload_n 3, 1) := by decide +kernel
theorem dX8_placeOf_90 : decode cX8_placeOf 90 = .ok (.iload 4, 2) := by decide +kernel
theorem dX8_placeOf_92 : decode cX8_placeOf 92 = .ok (.imul, 1) := by decide +kernel
theorem dX8_placeOf_93 : decode cX8_placeOf 93 = .ok (.iload 8, 2) := by decide +kernel
theorem dX8_placeOf_95 : decode cX8_placeOf 95 = .ok (.imul, 1) := by decide +kernel
theorem dX8_placeOf_96 : decode cX8_placeOf 96 = .ok (.iload_n 3, 1) := by decide +kernel
theorem dX8_placeOf_97 : decode cX8_placeOf 97 = .ok (.iload 7, 2) := by decide +kernel
theorem dX8_placeOf_99 : decode cX8_placeOf 99 = .ok (.imul, 1) := by decide +kernel
theorem dX8_placeOf_100 : decode cX8_placeOf 100 = .ok (.iload 5, 2) := by decide +kernel
theorem dX8_placeOf_102 : decode cX8_placeOf 102 = .ok (.imul, 1) := by decide +kernel
theorem dX8_placeOf_103 : decode cX8_placeOf 103 = .ok (.iadd, 1) := by decide +kernel
theorem dX8_placeOf_104 : decode cX8_placeOf 104 = .ok (.iload 6, 2) := by decide +kernel
theorem dX8_placeOf_106 : decode cX8_placeOf 106 = .ok (.iload 4, 2) := by decide +kernel
theorem dX8_placeOf_108 : decode cX8_placeOf 108 = .ok (.imul, 1) := by decide +kernel
theorem dX8_placeOf_109 : decode cX8_placeOf 109 = .ok (.iload 5, 2) := by decide +kernel
theorem dX8_placeOf_111 : decode cX8_placeOf 111 = .ok (.imul, 1) := by decide +kernel
theorem dX8_placeOf_112 : decode cX8_placeOf 112 = .ok (.iadd, 1) := by decide +kernel
theorem dX8_placeOf_113 : decode cX8_placeOf 113 = .ok (.imul, 1) := by decide +kernel
theorem dX8_placeOf_114 : decode cX8_placeOf 114 = .ok (.iadd, 1) := by decide +kernel
theorem dX8_placeOf_115 : decode cX8_placeOf 115 = .ok (.aload_n 0, 1) := by decide +kernel
theorem dX8_placeOf_116 : decode cX8_placeOf 116 = .ok (.getfield 7, 3) := by decide +kernel
theorem dX8_placeOf_119 : decode cX8_placeOf 119 = .ok (.iload 9, 2) := by decide +kernel
theorem dX8_placeOf_121 : decode cX8_placeOf 121 = .ok (.bipush 6, 2) := by decide +kernel
theorem dX8_placeOf_123 : decode cX8_placeOf 123 = .ok (.iadd, 1) := by decide +kernel
theorem dX8_placeOf_124 : decode cX8_placeOf 124 = .ok (.iaload, 1) := by decide +kernel
theorem dX8_placeOf_125 : decode cX8_placeOf 125 = .ok (.iload_n 3, 1) := by decide +kernel
theorem dX8_placeOf_126 : decode cX8_placeOf 126 = .ok (.imul, 1) := by decide +kernel
theorem dX8_placeOf_127 : decode cX8_placeOf 127 = .ok (.iload 4, 2) := by decide +kernel
theorem dX8_placeOf_129 : decode cX8_placeOf 129 = .ok (.imul, 1) := by decide +kernel
theorem dX8_placeOf_130 : decode cX8_placeOf 130 = .ok (.iload 5, 2) := by decide +kernel
theorem dX8_placeOf_132 : decode cX8_placeOf 132 = .ok (.imul, 1) := by decide +kernel
theorem dX8_placeOf_133 : decode cX8_placeOf 133 = .ok (.iadd, 1) := by decide +kernel
theorem dX8_placeOf_134 : decode cX8_placeOf 134 = .ok (.ireturn, 1) := by decide +kernel
theorem dX8_depth_0 : decode cX8_depth 0 = .ok (.iconst 0, 1) := by decide +kernel
theorem dX8_depth_1 : decode cX8_depth 1 = .ok (.istore_n 1, 1) := by decide +kernel
theorem dX8_depth_2 : decode cX8_depth 2 = .ok (.iload_n 0, 1) := by decide +kernel
theorem dX8_depth_3 : decode cX8_depth 3 = .ok (.iload_n 1, 1) := by decide +kernel
theorem dX8_depth_4 : decode cX8_depth 4 = .ok (.iconst 1, 1) := by decide +kernel
theorem dX8_depth_5 : decode cX8_depth 5 = .ok (.iadd, 1) := by decide +kernel
theorem dX8_depth_6 : decode cX8_depth 6 = .ok (.ishr, 1) := by decide +kernel
theorem dX8_depth_7 : decode cX8_depth 7 = .ok (.ifCond .le 9, 3) := by decide +kernel
theorem dX8_depth_10 : decode cX8_depth 10 = .ok (.iinc 1 1, 3) := by decide +kernel
theorem dX8_depth_13 : decode cX8_depth 13 = .ok (.goto (-11), 3) := by decide +kernel
theorem dX8_depth_16 : decode cX8_depth 16 = .ok (.iload_n 1, 1) := by decide +kernel
theorem dX8_depth_17 : decode cX8_depth 17 = .ok (.ireturn, 1) := by decide +kernel
theorem dX8_from_0 : decode cX8_from 0 = .ok (.iload_n 0, 1) := by decide +kernel
theorem dX8_from_1 : decode cX8_from 1 = .ok (.invokestatic 103, 3) := by decide +kernel
theorem dX8_from_4 : decode cX8_from 4 = .ok (.istore_n 1, 1) := by decide +kernel
theorem dX8_from_5 : decode cX8_from 5 = .ok (.iload_n 0, 1) := by decide +kernel
theorem dX8_from_6 : decode cX8_from 6 = .ok (.iconst 1, 1) := by decide +kernel
theorem dX8_from_7 : decode cX8_from 7 = .ok (.iload_n 1, 1) := by decide +kernel
theorem dX8_from_8 : decode cX8_from 8 = .ok (.ishl, 1) := by decide +kernel
theorem dX8_from_9 : decode cX8_from 9 = .ok (.isub, 1) := by decide +kernel
theorem dX8_from_10 : decode cX8_from 10 = .ok (.iconst 5, 1) := by decide +kernel
theorem dX8_from_11 : decode cX8_from 11 = .ok (.iload_n 1, 1) := by decide +kernel
theorem dX8_from_12 : decode cX8_from 12 = .ok (.isub, 1) := by decide +kernel
theorem dX8_from_13 : decode cX8_from 13 = .ok (.ishl, 1) := by decide +kernel
theorem dX8_from_14 : decode cX8_from 14 = .ok (.ireturn, 1) := by decide +kernel
theorem dX8_to_0 : decode cX8_to 0 = .ok (.iload_n 0, 1) := by decide +kernel
theorem dX8_to_1 : decode cX8_to 1 = .ok (.invokestatic 107, 3) := by decide +kernel
theorem dX8_to_4 : decode cX8_to 4 = .ok (.iconst 1, 1) := by decide +kernel
theorem dX8_to_5 : decode cX8_to 5 = .ok (.iconst 5, 1) := by decide +kernel
theorem dX8_to_6 : decode cX8_to 6 = .ok (.iload_n 0, 1) := by decide +kernel
theorem dX8_to_7 : decode cX8_to 7 = .ok (.invokestatic 103, 3) := by decide +kernel
theorem dX8_to_10 : decode cX8_to 10 = .ok (.isub, 1) := by decide +kernel
theorem dX8_to_11 : decode cX8_to 11 = .ok (.ishl, 1) := by decide +kernel
theorem dX8_to_12 : decode cX8_to 12 = .ok (.iadd, 1) := by decide +kernel
theorem dX8_to_13 : decode cX8_to 13 = .ok (.ireturn, 1) := by decide +kernel
theorem dX8_lays_0 : decode cX8_lays 0 = .ok (.aload_n 0, 1) := by decide +kernel
theorem dX8_lays_1 : decode cX8_lays 1 = .ok (.getfield 93, 3) := by decide +kernel
theorem dX8_lays_4 : decode cX8_lays 4 = .ok (.ifCond .eq 4, 3) := by decide +kernel
theorem dX8_lays_7 : decode cX8_lays 7 = .ok (.return_, 1) := by decide +kernel
theorem dX8_lays_8 : decode cX8_lays 8 = .ok (.aload_n 0, 1) := by decide +kernel
theorem dX8_lays_9 : decode cX8_lays 9 = .ok (.iconst 1, 1) := by decide +kernel
theorem dX8_lays_10 : decode cX8_lays 10 = .ok (.putfield 93, 3) := by decide +kernel
theorem dX8_lays_13 : decode cX8_lays 13 = .ok (.iconst 0, 1) := by decide +kernel
theorem dX8_lays_14 : decode cX8_lays 14 = .ok (.istore_n 1, 1) := by decide +kernel
theorem dX8_lays_15 : decode cX8_lays 15 = .ok (.iload_n 1, 1) := by decide +kernel
theorem dX8_lays_16 : decode cX8_lays 16 = .ok (.sipush 512, 3) := by decide +kernel
theorem dX8_lays_19 : decode cX8_lays 19 = .ok (.aload_n 0, 1) := by decide +kernel
theorem dX8_lays_20 : decode cX8_lays 20 = .ok (.getfield 56, 3) := by decide +kernel
theorem dX8_lays_23 : decode cX8_lays 23 = .ok (.imul, 1) := by decide +kernel
theorem dX8_lays_24 : decode cX8_lays 24 = .ok (.if_icmp .ge 99, 3) := by decide +kernel
theorem dX8_lays_27 : decode cX8_lays 27 = .ok (.iload_n 1, 1) := by decide +kernel
theorem dX8_lays_28 : decode cX8_lays 28 = .ok (.sipush 512, 3) := by decide +kernel
theorem dX8_lays_31 : decode cX8_lays 31 = .ok (.idiv, 1) := by decide +kernel
theorem dX8_lays_32 : decode cX8_lays 32 = .ok (.istore_n 2, 1) := by decide +kernel
theorem dX8_lays_33 : decode cX8_lays 33 = .ok (.iload_n 1, 1) := by decide +kernel
theorem dX8_lays_34 : decode cX8_lays 34 = .ok (.bipush 8, 2) := by decide +kernel
theorem dX8_lays_36 : decode cX8_lays 36 = .ok (.idiv, 1) := by decide +kernel
theorem dX8_lays_37 : decode cX8_lays 37 = .ok (.bipush 64, 2) := by decide +kernel
theorem dX8_lays_39 : decode cX8_lays 39 = .ok (.irem, 1) := by decide +kernel
theorem dX8_lays_40 : decode cX8_lays 40 = .ok (.istore_n 3, 1) := by decide +kernel
theorem dX8_lays_41 : decode cX8_lays 41 = .ok (.iload_n 3, 1) := by decide +kernel
theorem dX8_lays_42 : decode cX8_lays 42 = .ok (.ifCond .le 75, 3) := by decide +kernel
theorem dX8_lays_45 : decode cX8_lays 45 = .ok (.iload_n 1, 1) := by decide +kernel
theorem dX8_lays_46 : decode cX8_lays 46 = .ok (.bipush 8, 2) := by decide +kernel
theorem dX8_lays_48 : decode cX8_lays 48 = .ok (.irem, 1) := by decide +kernel
theorem dX8_lays_49 : decode cX8_lays 49 = .ok (.iconst 2, 1) := by decide +kernel
theorem dX8_lays_50 : decode cX8_lays 50 = .ok (.idiv, 1) := by decide +kernel
theorem dX8_lays_51 : decode cX8_lays 51 = .ok (.istore 4, 2) := by decide +kernel
theorem dX8_lays_53 : decode cX8_lays 53 = .ok (.iload_n 3, 1) := by decide +kernel
theorem dX8_lays_54 : decode cX8_lays 54 = .ok (.invokestatic 107, 3) := by decide +kernel
theorem dX8_lays_57 : decode cX8_lays 57 = .ok (.istore 5, 2) := by decide +kernel
theorem dX8_lays_59 : decode cX8_lays 59 = .ok (.iload_n 3, 1) := by decide +kernel
theorem dX8_lays_60 : decode cX8_lays 60 = .ok (.invokestatic 110, 3) := by decide +kernel
theorem dX8_lays_63 : decode cX8_lays 63 = .ok (.istore 6, 2) := by decide +kernel
theorem dX8_lays_65 : decode cX8_lays 65 = .ok (.aload_n 0, 1) := by decide +kernel
theorem dX8_lays_66 : decode cX8_lays 66 = .ok (.getfield 29, 3) := by decide +kernel
theorem dX8_lays_69 : decode cX8_lays 69 = .ok (.iload_n 1, 1) := by decide +kernel
theorem dX8_lays_70 : decode cX8_lays 70 = .ok (.aload_n 0, 1) := by decide +kernel
theorem dX8_lays_71 : decode cX8_lays 71 = .ok (.iload_n 2, 1) := by decide +kernel
theorem dX8_lays_72 : decode cX8_lays 72 = .ok (.iload_n 1, 1) := by decide +kernel
theorem dX8_lays_73 : decode cX8_lays 73 = .ok (.iconst 2, 1) := by decide +kernel
theorem dX8_lays_74 : decode cX8_lays 74 = .ok (.irem, 1) := by decide +kernel
theorem dX8_lays_75 : decode cX8_lays 75 = .ok (.iload 4, 2) := by decide +kernel
theorem dX8_lays_77 : decode cX8_lays 77 = .ok (.ifCond .le 8, 3) := by decide +kernel
theorem dX8_lays_80 : decode cX8_lays 80 = .ok (.iload 6, 2) := by decide +kernel
theorem dX8_lays_82 : decode cX8_lays 82 = .ok (.goto 5, 3) := by decide +kernel
theorem dX8_lays_85 : decode cX8_lays 85 = .ok (.iload 5, 2) := by decide +kernel
theorem dX8_lays_87 : decode cX8_lays 87 = .ok (.iload 4, 2) := by decide +kernel
theorem dX8_lays_89 : decode cX8_lays 89 = .ok (.iconst 1, 1) := by decide +kernel
theorem dX8_lays_90 : decode cX8_lays 90 = .ok (.if_icmp .le 8, 3) := by decide +kernel
theorem dX8_lays_93 : decode cX8_lays 93 = .ok (.iload 6, 2) := by decide +kernel
theorem dX8_lays_95 : decode cX8_lays 95 = .ok (.goto 5, 3) := by decide +kernel
theorem dX8_lays_98 : decode cX8_lays 98 = .ok (.iload 5, 2) := by decide +kernel
theorem dX8_lays_100 : decode cX8_lays 100 = .ok (.iload 4, 2) := by decide +kernel
theorem dX8_lays_102 : decode cX8_lays 102 = .ok (.iconst 2, 1) := by decide +kernel
theorem dX8_lays_103 : decode cX8_lays 103 = .ok (.if_icmp .le 8, 3) := by decide +kernel
theorem dX8_lays_106 : decode cX8_lays 106 = .ok (.iload 6, 2) := by decide +kernel
theorem dX8_lays_108 : decode cX8_lays 108 = .ok (.goto 5, 3) := by decide +kernel
theorem dX8_lays_111 : decode cX8_lays 111 = .ok (.iload 5, 2) := by decide +kernel
theorem dX8_lays_113 : decode cX8_lays 113 = .ok (.invokevirtual 113, 3) := by decide +kernel
theorem dX8_lays_116 : decode cX8_lays 116 = .ok (.iastore, 1) := by decide +kernel
theorem dX8_lays_117 : decode cX8_lays 117 = .ok (.iinc 1 1, 3) := by decide +kernel
theorem dX8_lays_120 : decode cX8_lays 120 = .ok (.goto (-105), 3) := by decide +kernel
theorem dX8_lays_123 : decode cX8_lays 123 = .ok (.return_, 1) := by decide +kernel
theorem dX8_at_0 : decode cX8_at 0 = .ok (.aload_n 0, 1) := by decide +kernel
theorem dX8_at_1 : decode cX8_at 1 = .ok (.getfield 29, 3) := by decide +kernel
theorem dX8_at_4 : decode cX8_at 4 = .ok (.bipush 8, 2) := by decide +kernel
theorem dX8_at_6 : decode cX8_at 6 = .ok (.bipush 64, 2) := by decide +kernel
theorem dX8_at_8 : decode cX8_at 8 = .ok (.iload_n 1, 1) := by decide +kernel
theorem dX8_at_9 : decode cX8_at 9 = .ok (.imul, 1) := by decide +kernel
theorem dX8_at_10 : decode cX8_at 10 = .ok (.iload_n 2, 1) := by decide +kernel
theorem dX8_at_11 : decode cX8_at 11 = .ok (.iadd, 1) := by decide +kernel
theorem dX8_at_12 : decode cX8_at 12 = .ok (.imul, 1) := by decide +kernel
theorem dX8_at_13 : decode cX8_at 13 = .ok (.iconst 2, 1) := by decide +kernel
theorem dX8_at_14 : decode cX8_at 14 = .ok (.iload_n 3, 1) := by decide +kernel
theorem dX8_at_15 : decode cX8_at 15 = .ok (.imul, 1) := by decide +kernel
theorem dX8_at_16 : decode cX8_at 16 = .ok (.iadd, 1) := by decide +kernel
theorem dX8_at_17 : decode cX8_at 17 = .ok (.iload 4, 2) := by decide +kernel
theorem dX8_at_19 : decode cX8_at 19 = .ok (.iadd, 1) := by decide +kernel
theorem dX8_at_20 : decode cX8_at 20 = .ok (.iaload, 1) := by decide +kernel
theorem dX8_at_21 : decode cX8_at 21 = .ok (.ireturn, 1) := by decide +kernel
theorem dX8_stepOf_0 : decode cX8_stepOf 0 = .ok (.aload_n 0, 1) := by decide +kernel
theorem dX8_stepOf_1 : decode cX8_stepOf 1 = .ok (.iload_n 1, 1) := by decide +kernel
theorem dX8_stepOf_2 : decode cX8_stepOf 2 = .ok (.iload_n 2, 1) := by decide +kernel
theorem dX8_stepOf_3 : decode cX8_stepOf 3 = .ok (.iload_n 3, 1) := by decide +kernel
theorem dX8_stepOf_4 : decode cX8_stepOf 4 = .ok (.iconst 1, 1) := by decide +kernel
theorem dX8_stepOf_5 : decode cX8_stepOf 5 = .ok (.iadd, 1) := by decide +kernel
theorem dX8_stepOf_6 : decode cX8_stepOf 6 = .ok (.iload 4, 2) := by decide +kernel
theorem dX8_stepOf_8 : decode cX8_stepOf 8 = .ok (.invokevirtual 117, 3) := by decide +kernel
theorem dX8_stepOf_11 : decode cX8_stepOf 11 = .ok (.aload_n 0, 1) := by decide +kernel
theorem dX8_stepOf_12 : decode cX8_stepOf 12 = .ok (.iload_n 1, 1) := by decide +kernel
theorem dX8_stepOf_13 : decode cX8_stepOf 13 = .ok (.iload_n 2, 1) := by decide +kernel
theorem dX8_stepOf_14 : decode cX8_stepOf 14 = .ok (.iload_n 3, 1) := by decide +kernel
theorem dX8_stepOf_15 : decode cX8_stepOf 15 = .ok (.iload 4, 2) := by decide +kernel
theorem dX8_stepOf_17 : decode cX8_stepOf 17 = .ok (.invokevirtual 117, 3) := by decide +kernel
theorem dX8_stepOf_20 : decode cX8_stepOf 20 = .ok (.isub, 1) := by decide +kernel
theorem dX8_stepOf_21 : decode cX8_stepOf 21 = .ok (.ireturn, 1) := by decide +kernel
theorem dX8_cross_0 : decode cX8_cross 0 = .ok (.lload_n 0, 1) := by decide +kernel
theorem dX8_cross_1 : decode cX8_cross 1 = .ok (.lload 6, 2) := by decide +kernel
theorem dX8_cross_3 : decode cX8_cross 3 = .ok (.lmul, 1) := by decide +kernel
theorem dX8_cross_4 : decode cX8_cross 4 = .ok (.lload_n 2, 1) := by decide +kernel
theorem dX8_cross_5 : decode cX8_cross 5 = .ok (.lload 4, 2) := by decide +kernel
theorem dX8_cross_7 : decode cX8_cross 7 = .ok (.lmul, 1) := by decide +kernel
theorem dX8_cross_8 : decode cX8_cross 8 = .ok (.lsub, 1) := by decide +kernel
theorem dX8_cross_9 : decode cX8_cross 9 = .ok (.lreturn, 1) := by decide +kernel
theorem dX8_side_0 : decode cX8_side 0 = .ok (.aload_n 0, 1) := by decide +kernel
theorem dX8_side_1 : decode cX8_side 1 = .ok (.iload_n 1, 1) := by decide +kernel
theorem dX8_side_2 : decode cX8_side 2 = .ok (.iload_n 2, 1) := by decide +kernel
theorem dX8_side_3 : decode cX8_side 3 = .ok (.iconst 0, 1) := by decide +kernel
theorem dX8_side_4 : decode cX8_side 4 = .ok (.iconst 0, 1) := by decide +kernel
theorem dX8_side_5 : decode cX8_side 5 = .ok (.invokevirtual 117, 3) := by decide +kernel
theorem dX8_side_8 : decode cX8_side 8 = .ok (.i2l, 1) := by decide +kernel
theorem dX8_side_9 : decode cX8_side 9 = .ok (.lstore 6, 2) := by decide +kernel
theorem dX8_side_11 : decode cX8_side 11 = .ok (.aload_n 0, 1) := by decide +kernel
theorem dX8_side_12 : decode cX8_side 12 = .ok (.iload_n 1, 1) := by decide +kernel
theorem dX8_side_13 : decode cX8_side 13 = .ok (.iload_n 2, 1) := by decide +kernel
theorem dX8_side_14 : decode cX8_side 14 = .ok (.iconst 0, 1) := by decide +kernel
theorem dX8_side_15 : decode cX8_side 15 = .ok (.iconst 1, 1) := by decide +kernel
theorem dX8_side_16 : decode cX8_side 16 = .ok (.invokevirtual 117, 3) := by decide +kernel
theorem dX8_side_19 : decode cX8_side 19 = .ok (.i2l, 1) := by decide +kernel
theorem dX8_side_20 : decode cX8_side 20 = .ok (.lstore 8, 2) := by decide +kernel
theorem dX8_side_22 : decode cX8_side 22 = .ok (.aload_n 0, 1) := by decide +kernel
theorem dX8_side_23 : decode cX8_side 23 = .ok (.iload_n 1, 1) := by decide +kernel
theorem dX8_side_24 : decode cX8_side 24 = .ok (.iload_n 2, 1) := by decide +kernel
theorem dX8_side_25 : decode cX8_side 25 = .ok (.iconst 3, 1) := by decide +kernel
theorem dX8_side_26 : decode cX8_side 26 = .ok (.iconst 0, 1) := by decide +kernel
theorem dX8_side_27 : decode cX8_side 27 = .ok (.invokevirtual 117, 3) := by decide +kernel
theorem dX8_side_30 : decode cX8_side 30 = .ok (.i2l, 1) := by decide +kernel
theorem dX8_side_31 : decode cX8_side 31 = .ok (.lload 6, 2) := by decide +kernel
theorem dX8_side_33 : decode cX8_side 33 = .ok (.lsub, 1) := by decide +kernel
theorem dX8_side_34 : decode cX8_side 34 = .ok (.aload_n 0, 1) := by decide +kernel
theorem dX8_side_35 : decode cX8_side 35 = .ok (.iload_n 1, 1) := by decide +kernel
theorem dX8_side_36 : decode cX8_side 36 = .ok (.iload_n 2, 1) := by decide +kernel
theorem dX8_side_37 : decode cX8_side 37 = .ok (.iconst 3, 1) := by decide +kernel
theorem dX8_side_38 : decode cX8_side 38 = .ok (.iconst 1, 1) := by decide +kernel
theorem dX8_side_39 : decode cX8_side 39 = .ok (.invokevirtual 117, 3) := by decide +kernel
theorem dX8_side_42 : decode cX8_side 42 = .ok (.i2l, 1) := by decide +kernel
theorem dX8_side_43 : decode cX8_side 43 = .ok (.lload 8, 2) := by decide +kernel
theorem dX8_side_45 : decode cX8_side 45 = .ok (.lsub, 1) := by decide +kernel
theorem dX8_side_46 : decode cX8_side 46 = .ok (.aload_n 0, 1) := by decide +kernel
theorem dX8_side_47 : decode cX8_side 47 = .ok (.iload_n 3, 1) := by decide +kernel
theorem dX8_side_48 : decode cX8_side 48 = .ok (.iload 4, 2) := by decide +kernel
theorem dX8_side_50 : decode cX8_side 50 = .ok (.iload 5, 2) := by decide +kernel
theorem dX8_side_52 : decode cX8_side 52 = .ok (.iconst 0, 1) := by decide +kernel
theorem dX8_side_53 : decode cX8_side 53 = .ok (.invokevirtual 117, 3) := by decide +kernel
theorem dX8_side_56 : decode cX8_side 56 = .ok (.i2l, 1) := by decide +kernel
theorem dX8_side_57 : decode cX8_side 57 = .ok (.lload 6, 2) := by decide +kernel
theorem dX8_side_59 : decode cX8_side 59 = .ok (.lsub, 1) := by decide +kernel
theorem dX8_side_60 : decode cX8_side 60 = .ok (.aload_n 0, 1) := by decide +kernel
theorem dX8_side_61 : decode cX8_side 61 = .ok (.iload_n 3, 1) := by decide +kernel
theorem dX8_side_62 : decode cX8_side 62 = .ok (.iload 4, 2) := by decide +kernel
theorem dX8_side_64 : decode cX8_side 64 = .ok (.iload 5, 2) := by decide +kernel
theorem dX8_side_66 : decode cX8_side 66 = .ok (.iconst 1, 1) := by decide +kernel
theorem dX8_side_67 : decode cX8_side 67 = .ok (.invokevirtual 117, 3) := by decide +kernel
theorem dX8_side_70 : decode cX8_side 70 = .ok (.i2l, 1) := by decide +kernel
theorem dX8_side_71 : decode cX8_side 71 = .ok (.lload 8, 2) := by decide +kernel
theorem dX8_side_73 : decode cX8_side 73 = .ok (.lsub, 1) := by decide +kernel
theorem dX8_side_74 : decode cX8_side 74 = .ok (.invokestatic 121, 3) := by decide +kernel
theorem dX8_side_77 : decode cX8_side 77 = .ok (.lreturn, 1) := by decide +kernel
theorem dX8_bandLow_0 : decode cX8_bandLow 0 = .ok (.lconst 0, 1) := by decide +kernel
theorem dX8_bandLow_1 : decode cX8_bandLow 1 = .ok (.lstore_n 3, 1) := by decide +kernel
theorem dX8_bandLow_2 : decode cX8_bandLow 2 = .ok (.iconst 1, 1) := by decide +kernel
theorem dX8_bandLow_3 : decode cX8_bandLow 3 = .ok (.istore 5, 2) := by decide +kernel
theorem dX8_bandLow_5 : decode cX8_bandLow 5 = .ok (.iload 5, 2) := by decide +kernel
theorem dX8_bandLow_7 : decode cX8_bandLow 7 = .ok (.iconst 3, 1) := by decide +kernel
theorem dX8_bandLow_8 : decode cX8_bandLow 8 = .ok (.if_icmp .ge 35, 3) := by decide +kernel
theorem dX8_bandLow_11 : decode cX8_bandLow 11 = .ok (.aload_n 0, 1) := by decide +kernel
theorem dX8_bandLow_12 : decode cX8_bandLow 12 = .ok (.iload_n 1, 1) := by decide +kernel
theorem dX8_bandLow_13 : decode cX8_bandLow 13 = .ok (.iload_n 2, 1) := by decide +kernel
theorem dX8_bandLow_14 : decode cX8_bandLow 14 = .ok (.iload_n 1, 1) := by decide +kernel
theorem dX8_bandLow_15 : decode cX8_bandLow 15 = .ok (.iload_n 2, 1) := by decide +kernel
theorem dX8_bandLow_16 : decode cX8_bandLow 16 = .ok (.iload 5, 2) := by decide +kernel
theorem dX8_bandLow_18 : decode cX8_bandLow 18 = .ok (.invokevirtual 125, 3) := by decide +kernel
theorem dX8_bandLow_21 : decode cX8_bandLow 21 = .ok (.lstore 6, 2) := by decide +kernel
theorem dX8_bandLow_23 : decode cX8_bandLow 23 = .ok (.lload 6, 2) := by decide +kernel
theorem dX8_bandLow_25 : decode cX8_bandLow 25 = .ok (.lload_n 3, 1) := by decide +kernel
theorem dX8_bandLow_26 : decode cX8_bandLow 26 = .ok (.lcmp, 1) := by decide +kernel
theorem dX8_bandLow_27 : decode cX8_bandLow 27 = .ok (.ifCond .ge 8, 3) := by decide +kernel
theorem dX8_bandLow_30 : decode cX8_bandLow 30 = .ok (.lload 6, 2) := by decide +kernel
theorem dX8_bandLow_32 : decode cX8_bandLow 32 = .ok (.goto 4, 3) := by decide +kernel
theorem dX8_bandLow_35 : decode cX8_bandLow 35 = .ok (.lload_n 3, 1) := by decide +kernel
theorem dX8_bandLow_36 : decode cX8_bandLow 36 = .ok (.lstore_n 3, 1) := by decide +kernel
theorem dX8_bandLow_37 : decode cX8_bandLow 37 = .ok (.iinc 5 1, 3) := by decide +kernel
theorem dX8_bandLow_40 : decode cX8_bandLow 40 = .ok (.goto (-35), 3) := by decide +kernel
theorem dX8_bandLow_43 : decode cX8_bandLow 43 = .ok (.lload_n 3, 1) := by decide +kernel
theorem dX8_bandLow_44 : decode cX8_bandLow 44 = .ok (.lreturn, 1) := by decide +kernel
theorem dX8_bandHigh_0 : decode cX8_bandHigh 0 = .ok (.lconst 0, 1) := by decide +kernel
theorem dX8_bandHigh_1 : decode cX8_bandHigh 1 = .ok (.lstore_n 3, 1) := by decide +kernel
theorem dX8_bandHigh_2 : decode cX8_bandHigh 2 = .ok (.iconst 1, 1) := by decide +kernel
theorem dX8_bandHigh_3 : decode cX8_bandHigh 3 = .ok (.istore 5, 2) := by decide +kernel
theorem dX8_bandHigh_5 : decode cX8_bandHigh 5 = .ok (.iload 5, 2) := by decide +kernel
theorem dX8_bandHigh_7 : decode cX8_bandHigh 7 = .ok (.iconst 3, 1) := by decide +kernel
theorem dX8_bandHigh_8 : decode cX8_bandHigh 8 = .ok (.if_icmp .ge 35, 3) := by decide +kernel
theorem dX8_bandHigh_11 : decode cX8_bandHigh 11 = .ok (.aload_n 0, 1) := by decide +kernel
theorem dX8_bandHigh_12 : decode cX8_bandHigh 12 = .ok (.iload_n 1, 1) := by decide +kernel
theorem dX8_bandHigh_13 : decode cX8_bandHigh 13 = .ok (.iload_n 2, 1) := by decide +kernel
theorem dX8_bandHigh_14 : decode cX8_bandHigh 14 = .ok (.iload_n 1, 1) := by decide +kernel
theorem dX8_bandHigh_15 : decode cX8_bandHigh 15 = .ok (.iload_n 2, 1) := by decide +kernel
theorem dX8_bandHigh_16 : decode cX8_bandHigh 16 = .ok (.iload 5, 2) := by decide +kernel
theorem dX8_bandHigh_18 : decode cX8_bandHigh 18 = .ok (.invokevirtual 125, 3) := by decide +kernel
theorem dX8_bandHigh_21 : decode cX8_bandHigh 21 = .ok (.lstore 6, 2) := by decide +kernel
theorem dX8_bandHigh_23 : decode cX8_bandHigh 23 = .ok (.lload 6, 2) := by decide +kernel
theorem dX8_bandHigh_25 : decode cX8_bandHigh 25 = .ok (.lload_n 3, 1) := by decide +kernel
theorem dX8_bandHigh_26 : decode cX8_bandHigh 26 = .ok (.lcmp, 1) := by decide +kernel
theorem dX8_bandHigh_27 : decode cX8_bandHigh 27 = .ok (.ifCond .le 8, 3) := by decide +kernel
theorem dX8_bandHigh_30 : decode cX8_bandHigh 30 = .ok (.lload 6, 2) := by decide +kernel
theorem dX8_bandHigh_32 : decode cX8_bandHigh 32 = .ok (.goto 4, 3) := by decide +kernel
theorem dX8_bandHigh_35 : decode cX8_bandHigh 35 = .ok (.lload_n 3, 1) := by decide +kernel
theorem dX8_bandHigh_36 : decode cX8_bandHigh 36 = .ok (.lstore_n 3, 1) := by decide +kernel
theorem dX8_bandHigh_37 : decode cX8_bandHigh 37 = .ok (.iinc 5 1, 3) := by decide +kernel
theorem dX8_bandHigh_40 : decode cX8_bandHigh 40 = .ok (.goto (-35), 3) := by decide +kernel
theorem dX8_bandHigh_43 : decode cX8_bandHigh 43 = .ok (.lload_n 3, 1) := by decide +kernel
theorem dX8_bandHigh_44 : decode cX8_bandHigh 44 = .ok (.lreturn, 1) := by decide +kernel
theorem dX8_beyond_0 : decode cX8_beyond 0 = .ok (.aload_n 0, 1) := by decide +kernel
theorem dX8_beyond_1 : decode cX8_beyond 1 = .ok (.iload_n 1, 1) := by decide +kernel
theorem dX8_beyond_2 : decode cX8_beyond 2 = .ok (.iload_n 2, 1) := by decide +kernel
theorem dX8_beyond_3 : decode cX8_beyond 3 = .ok (.invokevirtual 129, 3) := by decide +kernel
theorem dX8_beyond_6 : decode cX8_beyond 6 = .ok (.lstore 7, 2) := by decide +kernel
theorem dX8_beyond_8 : decode cX8_beyond 8 = .ok (.aload_n 0, 1) := by decide +kernel
theorem dX8_beyond_9 : decode cX8_beyond 9 = .ok (.iload_n 1, 1) := by decide +kernel
theorem dX8_beyond_10 : decode cX8_beyond 10 = .ok (.iload_n 2, 1) := by decide +kernel
theorem dX8_beyond_11 : decode cX8_beyond 11 = .ok (.invokevirtual 133, 3) := by decide +kernel
theorem dX8_beyond_14 : decode cX8_beyond 14 = .ok (.lstore 9, 2) := by decide +kernel
theorem dX8_beyond_16 : decode cX8_beyond 16 = .ok (.iconst 0, 1) := by decide +kernel
theorem dX8_beyond_17 : decode cX8_beyond 17 = .ok (.istore 11, 2) := by decide +kernel
theorem dX8_beyond_19 : decode cX8_beyond 19 = .ok (.iconst 0, 1) := by decide +kernel
theorem dX8_beyond_20 : decode cX8_beyond 20 = .ok (.istore 12, 2) := by decide +kernel
theorem dX8_beyond_22 : decode cX8_beyond 22 = .ok (.iload 12, 2) := by decide +kernel
theorem dX8_beyond_24 : decode cX8_beyond 24 = .ok (.iconst 4, 1) := by decide +kernel
theorem dX8_beyond_25 : decode cX8_beyond 25 = .ok (.if_icmp .ge 60, 3) := by decide +kernel
theorem dX8_beyond_28 : decode cX8_beyond 28 = .ok (.aload_n 0, 1) := by decide +kernel
theorem dX8_beyond_29 : decode cX8_beyond 29 = .ok (.iload_n 1, 1) := by decide +kernel
theorem dX8_beyond_30 : decode cX8_beyond 30 = .ok (.iload_n 2, 1) := by decide +kernel
theorem dX8_beyond_31 : decode cX8_beyond 31 = .ok (.iload_n 3, 1) := by decide +kernel
theorem dX8_beyond_32 : decode cX8_beyond 32 = .ok (.iload 4, 2) := by decide +kernel
theorem dX8_beyond_34 : decode cX8_beyond 34 = .ok (.iload 12, 2) := by decide +kernel
theorem dX8_beyond_36 : decode cX8_beyond 36 = .ok (.invokevirtual 125, 3) := by decide +kernel
theorem dX8_beyond_39 : decode cX8_beyond 39 = .ok (.lstore 13, 2) := by decide +kernel
theorem dX8_beyond_41 : decode cX8_beyond 41 = .ok (.iload 11, 2) := by decide +kernel
theorem dX8_beyond_43 : decode cX8_beyond 43 = .ok (.iload 5, 2) := by decide +kernel
theorem dX8_beyond_45 : decode cX8_beyond 45 = .ok (.ifCond .eq 14, 3) := by decide +kernel
theorem dX8_beyond_48 : decode cX8_beyond 48 = .ok (.lload 13, 2) := by decide +kernel
theorem dX8_beyond_50 : decode cX8_beyond 50 = .ok (.lload 9, 2) := by decide +kernel
theorem dX8_beyond_52 : decode cX8_beyond 52 = .ok (.lcmp, 1) := by decide +kernel
theorem dX8_beyond_53 : decode cX8_beyond 53 = .ok (.ifCond .le 18, 3) := by decide +kernel
theorem dX8_beyond_56 : decode cX8_beyond 56 = .ok (.goto 11, 3) := by decide +kernel
theorem dX8_beyond_59 : decode cX8_beyond 59 = .ok (.lload 13, 2) := by decide +kernel
theorem dX8_beyond_61 : decode cX8_beyond 61 = .ok (.lload 7, 2) := by decide +kernel
theorem dX8_beyond_63 : decode cX8_beyond 63 = .ok (.lcmp, 1) := by decide +kernel
theorem dX8_beyond_64 : decode cX8_beyond 64 = .ok (.ifCond .ge 7, 3) := by decide +kernel
theorem dX8_beyond_67 : decode cX8_beyond 67 = .ok (.iconst 1, 1) := by decide +kernel
theorem dX8_beyond_68 : decode cX8_beyond 68 = .ok (.goto 4, 3) := by decide +kernel
theorem dX8_beyond_71 : decode cX8_beyond 71 = .ok (.iconst 0, 1) := by decide +kernel
theorem dX8_beyond_72 : decode cX8_beyond 72 = .ok (.iadd, 1) := by decide +kernel
theorem dX8_beyond_73 : decode cX8_beyond 73 = .ok (.istore 11, 2) := by decide +kernel
theorem dX8_beyond_75 : decode cX8_beyond 75 = .ok (.iload 12, 2) := by decide +kernel
theorem dX8_beyond_77 : decode cX8_beyond 77 = .ok (.iload 6, 2) := by decide +kernel
theorem dX8_beyond_79 : decode cX8_beyond 79 = .ok (.iadd, 1) := by decide +kernel
theorem dX8_beyond_80 : decode cX8_beyond 80 = .ok (.istore 12, 2) := by decide +kernel
theorem dX8_beyond_82 : decode cX8_beyond 82 = .ok (.goto (-60), 3) := by decide +kernel
theorem dX8_beyond_85 : decode cX8_beyond 85 = .ok (.iload 11, 2) := by decide +kernel
theorem dX8_beyond_87 : decode cX8_beyond 87 = .ok (.ireturn, 1) := by decide +kernel
theorem dX8_clears_0 : decode cX8_clears 0 = .ok (.aload_n 0, 1) := by decide +kernel
theorem dX8_clears_1 : decode cX8_clears 1 = .ok (.iload_n 1, 1) := by decide +kernel
theorem dX8_clears_2 : decode cX8_clears 2 = .ok (.iload_n 2, 1) := by decide +kernel
theorem dX8_clears_3 : decode cX8_clears 3 = .ok (.iload_n 3, 1) := by decide +kernel
theorem dX8_clears_4 : decode cX8_clears 4 = .ok (.iload 4, 2) := by decide +kernel
theorem dX8_clears_6 : decode cX8_clears 6 = .ok (.iconst 1, 1) := by decide +kernel
theorem dX8_clears_7 : decode cX8_clears 7 = .ok (.iconst 1, 1) := by decide +kernel
theorem dX8_clears_8 : decode cX8_clears 8 = .ok (.invokevirtual 136, 3) := by decide +kernel
theorem dX8_clears_11 : decode cX8_clears 11 = .ok (.iconst 4, 1) := by decide +kernel
theorem dX8_clears_12 : decode cX8_clears 12 = .ok (.if_icmp .eq 18, 3) := by decide +kernel
theorem dX8_clears_15 : decode cX8_clears 15 = .ok (.aload_n 0, 1) := by decide +kernel
theorem dX8_clears_16 : decode cX8_clears 16 = .ok (.iload_n 1, 1) := by decide +kernel
theorem dX8_clears_17 : decode cX8_clears 17 = .ok (.iload_n 2, 1) := by decide +kernel
theorem dX8_clears_18 : decode cX8_clears 18 = .ok (.iload_n 3, 1) := by decide +kernel
theorem dX8_clears_19 : decode cX8_clears 19 = .ok (.iload 4, 2) := by decide +kernel
theorem dX8_clears_21 : decode cX8_clears 21 = .ok (.iconst 0, 1) := by decide +kernel
theorem dX8_clears_22 : decode cX8_clears 22 = .ok (.iconst 1, 1) := by decide +kernel
theorem dX8_clears_23 : decode cX8_clears 23 = .ok (.invokevirtual 136, 3) := by decide +kernel
theorem dX8_clears_26 : decode cX8_clears 26 = .ok (.iconst 4, 1) := by decide +kernel
theorem dX8_clears_27 : decode cX8_clears 27 = .ok (.if_icmp .ne 7, 3) := by decide +kernel
theorem dX8_clears_30 : decode cX8_clears 30 = .ok (.iconst 1, 1) := by decide +kernel
theorem dX8_clears_31 : decode cX8_clears 31 = .ok (.goto 4, 3) := by decide +kernel
theorem dX8_clears_34 : decode cX8_clears 34 = .ok (.iconst 0, 1) := by decide +kernel
theorem dX8_clears_35 : decode cX8_clears 35 = .ok (.ireturn, 1) := by decide +kernel
theorem dX8_extreme_0 : decode cX8_extreme 0 = .ok (.aload_n 0, 1) := by decide +kernel
theorem dX8_extreme_1 : decode cX8_extreme 1 = .ok (.iload_n 1, 1) := by decide +kernel
theorem dX8_extreme_2 : decode cX8_extreme 2 = .ok (.iload_n 2, 1) := by decide +kernel
theorem dX8_extreme_3 : decode cX8_extreme 3 = .ok (.iconst 0, 1) := by decide +kernel
theorem dX8_extreme_4 : decode cX8_extreme 4 = .ok (.iload_n 3, 1) := by decide +kernel
theorem dX8_extreme_5 : decode cX8_extreme 5 = .ok (.invokevirtual 117, 3) := by decide +kernel
theorem dX8_extreme_8 : decode cX8_extreme 8 = .ok (.istore 5, 2) := by decide +kernel
theorem dX8_extreme_10 : decode cX8_extreme 10 = .ok (.iconst 1, 1) := by decide +kernel
theorem dX8_extreme_11 : decode cX8_extreme 11 = .ok (.istore 6, 2) := by decide +kernel
theorem dX8_extreme_13 : decode cX8_extreme 13 = .ok (.iload 6, 2) := by decide +kernel
theorem dX8_extreme_15 : decode cX8_extreme 15 = .ok (.iconst 4, 1) := by decide +kernel
theorem dX8_extreme_16 : decode cX8_extreme 16 = .ok (.if_icmp .ge 51, 3) := by decide +kernel
theorem dX8_extreme_19 : decode cX8_extreme 19 = .ok (.aload_n 0, 1) := by decide +kernel
theorem dX8_extreme_20 : decode cX8_extreme 20 = .ok (.iload_n 1, 1) := by decide +kernel
theorem dX8_extreme_21 : decode cX8_extreme 21 = .ok (.iload_n 2, 1) := by decide +kernel
theorem dX8_extreme_22 : decode cX8_extreme 22 = .ok (.iload 6, 2) := by decide +kernel
theorem dX8_extreme_24 : decode cX8_extreme 24 = .ok (.iload_n 3, 1) := by decide +kernel
theorem dX8_extreme_25 : decode cX8_extreme 25 = .ok (.invokevirtual 117, 3) := by decide +kernel
theorem dX8_extreme_28 : decode cX8_extreme 28 = .ok (.istore 7, 2) := by decide +kernel
theorem dX8_extreme_30 : decode cX8_extreme 30 = .ok (.iload 4, 2) := by decide +kernel
theorem dX8_extreme_32 : decode cX8_extreme 32 = .ok (.ifCond .eq 13, 3) := by decide +kernel
theorem dX8_extreme_35 : decode cX8_extreme 35 = .ok (.iload 7, 2) := by decide +kernel
theorem dX8_extreme_37 : decode cX8_extreme 37 = .ok (.iload 5, 2) := by decide +kernel
theorem dX8_extreme_39 : decode cX8_extreme 39 = .ok (.if_icmp .le 18, 3) := by decide +kernel
theorem dX8_extreme_42 : decode cX8_extreme 42 = .ok (.goto 10, 3) := by decide +kernel
theorem dX8_extreme_45 : decode cX8_extreme 45 = .ok (.iload 7, 2) := by decide +kernel
theorem dX8_extreme_47 : decode cX8_extreme 47 = .ok (.iload 5, 2) := by decide +kernel
theorem dX8_extreme_49 : decode cX8_extreme 49 = .ok (.if_icmp .ge 8, 3) := by decide +kernel
theorem dX8_extreme_52 : decode cX8_extreme 52 = .ok (.iload 7, 2) := by decide +kernel
theorem dX8_extreme_54 : decode cX8_extreme 54 = .ok (.goto 5, 3) := by decide +kernel
theorem dX8_extreme_57 : decode cX8_extreme 57 = .ok (.iload 5, 2) := by decide +kernel
theorem dX8_extreme_59 : decode cX8_extreme 59 = .ok (.istore 5, 2) := by decide +kernel
theorem dX8_extreme_61 : decode cX8_extreme 61 = .ok (.iinc 6 1, 3) := by decide +kernel
theorem dX8_extreme_64 : decode cX8_extreme 64 = .ok (.goto (-51), 3) := by decide +kernel
theorem dX8_extreme_67 : decode cX8_extreme 67 = .ok (.iload 5, 2) := by decide +kernel
theorem dX8_extreme_69 : decode cX8_extreme 69 = .ok (.ireturn, 1) := by decide +kernel
theorem dX8_areBoxesApart_0 : decode cX8_areBoxesApart 0 = .ok (.iconst 0, 1) := by decide +kernel
theorem dX8_areBoxesApart_1 : decode cX8_areBoxesApart 1 = .ok (.istore 5, 2) := by decide +kernel
theorem dX8_areBoxesApart_3 : decode cX8_areBoxesApart 3 = .ok (.iconst 0, 1) := by decide +kernel
theorem dX8_areBoxesApart_4 : decode cX8_areBoxesApart 4 = .ok (.istore 6, 2) := by decide +kernel
theorem dX8_areBoxesApart_6 : decode cX8_areBoxesApart 6 = .ok (.iload 6, 2) := by decide +kernel
theorem dX8_areBoxesApart_8 : decode cX8_areBoxesApart 8 = .ok (.iconst 2, 1) := by decide +kernel
theorem dX8_areBoxesApart_9 : decode cX8_areBoxesApart 9 = .ok (.if_icmp .ge 65, 3) := by decide +kernel
theorem dX8_areBoxesApart_12 : decode cX8_areBoxesApart 12 = .ok (.iload 5, 2) := by decide +kernel
theorem dX8_areBoxesApart_14 : decode cX8_areBoxesApart 14 = .ok (.ifCond .ne 47, 3) := by decide +kernel
theorem dX8_areBoxesApart_17 : decode cX8_areBoxesApart 17 = .ok (.aload_n 0, 1) := by decide +kernel
theorem dX8_areBoxesApart_18 : decode cX8_areBoxesApart 18 = .ok (.iload_n 1, 1) := by decide +kernel
theorem dX8_areBoxesApart_19 : decode cX8_areBoxesApart 19 = .ok (.iload_n 2, 1) := by decide +kernel
theorem dX8_areBoxesApart_20 : decode cX8_areBoxesApart 20 = .ok (.iload 6, 2) := by decide +kernel
theorem dX8_areBoxesApart_22 : decode cX8_areBoxesApart 22 = .ok (.iconst 1, 1) := by decide +kernel
theorem dX8_areBoxesApart_23 : decode cX8_areBoxesApart 23 = .ok (.invokevirtual 140, 3) := by decide +kernel
theorem dX8_areBoxesApart_26 : decode cX8_areBoxesApart 26 = .ok (.aload_n 0, 1) := by decide +kernel
theorem dX8_areBoxesApart_27 : decode cX8_areBoxesApart 27 = .ok (.iload_n 3, 1) := by decide +kernel
theorem dX8_areBoxesApart_28 : decode cX8_areBoxesApart 28 = .ok (.iload 4, 2) := by decide +kernel
theorem dX8_areBoxesApart_30 : decode cX8_areBoxesApart 30 = .ok (.iload 6, 2) := by decide +kernel
theorem dX8_areBoxesApart_32 : decode cX8_areBoxesApart 32 = .ok (.iconst 0, 1) := by decide +kernel
theorem dX8_areBoxesApart_33 : decode cX8_areBoxesApart 33 = .ok (.invokevirtual 140, 3) := by decide +kernel
theorem dX8_areBoxesApart_36 : decode cX8_areBoxesApart 36 = .ok (.if_icmp .lt 25, 3) := by decide +kernel
theorem dX8_areBoxesApart_39 : decode cX8_areBoxesApart 39 = .ok (.aload_n 0, 1) := by decide +kernel
theorem dX8_areBoxesApart_40 : decode cX8_areBoxesApart 40 = .ok (.iload_n 3, 1) := by decide +kernel
theorem dX8_areBoxesApart_41 : decode cX8_areBoxesApart 41 = .ok (.iload 4, 2) := by decide +kernel
theorem dX8_areBoxesApart_43 : decode cX8_areBoxesApart 43 = .ok (.iload 6, 2) := by decide +kernel
theorem dX8_areBoxesApart_45 : decode cX8_areBoxesApart 45 = .ok (.iconst 1, 1) := by decide +kernel
theorem dX8_areBoxesApart_46 : decode cX8_areBoxesApart 46 = .ok (.invokevirtual 140, 3) := by decide +kernel
theorem dX8_areBoxesApart_49 : decode cX8_areBoxesApart 49 = .ok (.aload_n 0, 1) := by decide +kernel
theorem dX8_areBoxesApart_50 : decode cX8_areBoxesApart 50 = .ok (.iload_n 1, 1) := by decide +kernel
theorem dX8_areBoxesApart_51 : decode cX8_areBoxesApart 51 = .ok (.iload_n 2, 1) := by decide +kernel
theorem dX8_areBoxesApart_52 : decode cX8_areBoxesApart 52 = .ok (.iload 6, 2) := by decide +kernel
theorem dX8_areBoxesApart_54 : decode cX8_areBoxesApart 54 = .ok (.iconst 0, 1) := by decide +kernel
theorem dX8_areBoxesApart_55 : decode cX8_areBoxesApart 55 = .ok (.invokevirtual 140, 3) := by decide +kernel
theorem dX8_areBoxesApart_58 : decode cX8_areBoxesApart 58 = .ok (.if_icmp .ge 7, 3) := by decide +kernel
theorem dX8_areBoxesApart_61 : decode cX8_areBoxesApart 61 = .ok (.iconst 1, 1) := by decide +kernel
theorem dX8_areBoxesApart_62 : decode cX8_areBoxesApart 62 = .ok (.goto 4, 3) := by decide +kernel
theorem dX8_areBoxesApart_65 : decode cX8_areBoxesApart 65 = .ok (.iconst 0, 1) := by decide +kernel
theorem dX8_areBoxesApart_66 : decode cX8_areBoxesApart 66 = .ok (.istore 5, 2) := by decide +kernel
theorem dX8_areBoxesApart_68 : decode cX8_areBoxesApart 68 = .ok (.iinc 6 1, 3) := by decide +kernel
theorem dX8_areBoxesApart_71 : decode cX8_areBoxesApart 71 = .ok (.goto (-65), 3) := by decide +kernel
theorem dX8_areBoxesApart_74 : decode cX8_areBoxesApart 74 = .ok (.iload 5, 2) := by decide +kernel
theorem dX8_areBoxesApart_76 : decode cX8_areBoxesApart 76 = .ok (.ireturn, 1) := by decide +kernel
theorem dX8_apartOf_0 : decode cX8_apartOf 0 = .ok (.aload_n 0, 1) := by decide +kernel
theorem dX8_apartOf_1 : decode cX8_apartOf 1 = .ok (.iload_n 1, 1) := by decide +kernel
theorem dX8_apartOf_2 : decode cX8_apartOf 2 = .ok (.iload_n 2, 1) := by decide +kernel
theorem dX8_apartOf_3 : decode cX8_apartOf 3 = .ok (.iload_n 3, 1) := by decide +kernel
theorem dX8_apartOf_4 : decode cX8_apartOf 4 = .ok (.iload 4, 2) := by decide +kernel
theorem dX8_apartOf_6 : decode cX8_apartOf 6 = .ok (.invokevirtual 144, 3) := by decide +kernel
theorem dX8_apartOf_9 : decode cX8_apartOf 9 = .ok (.ifCond .eq 5, 3) := by decide +kernel
theorem dX8_apartOf_12 : decode cX8_apartOf 12 = .ok (.iconst 1, 1) := by decide +kernel
theorem dX8_apartOf_13 : decode cX8_apartOf 13 = .ok (.ireturn, 1) := by decide +kernel
theorem dX8_apartOf_14 : decode cX8_apartOf 14 = .ok (.aload_n 0, 1) := by decide +kernel
theorem dX8_apartOf_15 : decode cX8_apartOf 15 = .ok (.iload_n 1, 1) := by decide +kernel
theorem dX8_apartOf_16 : decode cX8_apartOf 16 = .ok (.iload_n 2, 1) := by decide +kernel
theorem dX8_apartOf_17 : decode cX8_apartOf 17 = .ok (.iload_n 3, 1) := by decide +kernel
theorem dX8_apartOf_18 : decode cX8_apartOf 18 = .ok (.iload 4, 2) := by decide +kernel
theorem dX8_apartOf_20 : decode cX8_apartOf 20 = .ok (.invokevirtual 148, 3) := by decide +kernel
theorem dX8_apartOf_23 : decode cX8_apartOf 23 = .ok (.ifCond .eq 7, 3) := by decide +kernel
theorem dX8_apartOf_26 : decode cX8_apartOf 26 = .ok (.iconst 2, 1) := by decide +kernel
theorem dX8_apartOf_27 : decode cX8_apartOf 27 = .ok (.goto 20, 3) := by decide +kernel
theorem dX8_apartOf_30 : decode cX8_apartOf 30 = .ok (.aload_n 0, 1) := by decide +kernel
theorem dX8_apartOf_31 : decode cX8_apartOf 31 = .ok (.iload_n 3, 1) := by decide +kernel
theorem dX8_apartOf_32 : decode cX8_apartOf 32 = .ok (.iload 4, 2) := by decide +kernel
theorem dX8_apartOf_34 : decode cX8_apartOf 34 = .ok (.iload_n 1, 1) := by decide +kernel
theorem dX8_apartOf_35 : decode cX8_apartOf 35 = .ok (.iload_n 2, 1) := by decide +kernel
theorem dX8_apartOf_36 : decode cX8_apartOf 36 = .ok (.invokevirtual 148, 3) := by decide +kernel
theorem dX8_apartOf_39 : decode cX8_apartOf 39 = .ok (.ifCond .eq 7, 3) := by decide +kernel
theorem dX8_apartOf_42 : decode cX8_apartOf 42 = .ok (.iconst 3, 1) := by decide +kernel
theorem dX8_apartOf_43 : decode cX8_apartOf 43 = .ok (.goto 4, 3) := by decide +kernel
theorem dX8_apartOf_46 : decode cX8_apartOf 46 = .ok (.iconst 0, 1) := by decide +kernel
theorem dX8_apartOf_47 : decode cX8_apartOf 47 = .ok (.ireturn, 1) := by decide +kernel
theorem dX8_turnOf_0 : decode cX8_turnOf 0 = .ok (.iconst 0, 1) := by decide +kernel
theorem dX8_turnOf_1 : decode cX8_turnOf 1 = .ok (.istore 5, 2) := by decide +kernel
theorem dX8_turnOf_3 : decode cX8_turnOf 3 = .ok (.iconst 0, 1) := by decide +kernel
theorem dX8_turnOf_4 : decode cX8_turnOf 4 = .ok (.istore 6, 2) := by decide +kernel
theorem dX8_turnOf_6 : decode cX8_turnOf 6 = .ok (.iconst 0, 1) := by decide +kernel
theorem dX8_turnOf_7 : decode cX8_turnOf 7 = .ok (.istore 7, 2) := by decide +kernel
theorem dX8_turnOf_9 : decode cX8_turnOf 9 = .ok (.iload 7, 2) := by decide +kernel
theorem dX8_turnOf_11 : decode cX8_turnOf 11 = .ok (.bipush 9, 2) := by decide +kernel
theorem dX8_turnOf_13 : decode cX8_turnOf 13 = .ok (.if_icmp .ge 98, 3) := by decide +kernel
theorem dX8_turnOf_16 : decode cX8_turnOf 16 = .ok (.aload_n 0, 1) := by decide +kernel
theorem dX8_turnOf_17 : decode cX8_turnOf 17 = .ok (.iload_n 1, 1) := by decide +kernel
theorem dX8_turnOf_18 : decode cX8_turnOf 18 = .ok (.iload_n 2, 1) := by decide +kernel
theorem dX8_turnOf_19 : decode cX8_turnOf 19 = .ok (.iload 7, 2) := by decide +kernel
theorem dX8_turnOf_21 : decode cX8_turnOf 21 = .ok (.iconst 3, 1) := by decide +kernel
theorem dX8_turnOf_22 : decode cX8_turnOf 22 = .ok (.idiv, 1) := by decide +kernel
theorem dX8_turnOf_23 : decode cX8_turnOf 23 = .ok (.iconst 0, 1) := by decide +kernel
theorem dX8_turnOf_24 : decode cX8_turnOf 24 = .ok (.invokevirtual 151, 3) := by decide +kernel
theorem dX8_turnOf_27 : decode cX8_turnOf 27 = .ok (.i2l, 1) := by decide +kernel
theorem dX8_turnOf_28 : decode cX8_turnOf 28 = .ok (.aload_n 0, 1) := by decide +kernel
theorem dX8_turnOf_29 : decode cX8_turnOf 29 = .ok (.iload_n 1, 1) := by decide +kernel
theorem dX8_turnOf_30 : decode cX8_turnOf 30 = .ok (.iload_n 2, 1) := by decide +kernel
theorem dX8_turnOf_31 : decode cX8_turnOf 31 = .ok (.iload 7, 2) := by decide +kernel
theorem dX8_turnOf_33 : decode cX8_turnOf 33 = .ok (.iconst 3, 1) := by decide +kernel
theorem dX8_turnOf_34 : decode cX8_turnOf 34 = .ok (.idiv, 1) := by decide +kernel
theorem dX8_turnOf_35 : decode cX8_turnOf 35 = .ok (.iconst 1, 1) := by decide +kernel
theorem dX8_turnOf_36 : decode cX8_turnOf 36 = .ok (.invokevirtual 151, 3) := by decide +kernel
theorem dX8_turnOf_39 : decode cX8_turnOf 39 = .ok (.i2l, 1) := by decide +kernel
theorem dX8_turnOf_40 : decode cX8_turnOf 40 = .ok (.aload_n 0, 1) := by decide +kernel
theorem dX8_turnOf_41 : decode cX8_turnOf 41 = .ok (.iload_n 3, 1) := by decide +kernel
theorem dX8_turnOf_42 : decode cX8_turnOf 42 = .ok (.iload 4, 2) := by decide +kernel
theorem dX8_turnOf_44 : decode cX8_turnOf 44 = .ok (.iload 7, 2) := by decide +kernel
theorem dX8_turnOf_46 : decode cX8_turnOf 46 = .ok (.iconst 3, 1) := by decide +kernel
theorem dX8_turnOf_47 : decode cX8_turnOf 47 = .ok (.irem, 1) := by decide +kernel
theorem dX8_turnOf_48 : decode cX8_turnOf 48 = .ok (.iconst 0, 1) := by decide +kernel
theorem dX8_turnOf_49 : decode cX8_turnOf 49 = .ok (.invokevirtual 151, 3) := by decide +kernel
theorem dX8_turnOf_52 : decode cX8_turnOf 52 = .ok (.i2l, 1) := by decide +kernel
theorem dX8_turnOf_53 : decode cX8_turnOf 53 = .ok (.aload_n 0, 1) := by decide +kernel
theorem dX8_turnOf_54 : decode cX8_turnOf 54 = .ok (.iload_n 3, 1) := by decide +kernel
theorem dX8_turnOf_55 : decode cX8_turnOf 55 = .ok (.iload 4, 2) := by decide +kernel
theorem dX8_turnOf_57 : decode cX8_turnOf 57 = .ok (.iload 7, 2) := by decide +kernel
theorem dX8_turnOf_59 : decode cX8_turnOf 59 = .ok (.iconst 3, 1) := by decide +kernel
theorem dX8_turnOf_60 : decode cX8_turnOf 60 = .ok (.irem, 1) := by decide +kernel
theorem dX8_turnOf_61 : decode cX8_turnOf 61 = .ok (.iconst 1, 1) := by decide +kernel
theorem dX8_turnOf_62 : decode cX8_turnOf 62 = .ok (.invokevirtual 151, 3) := by decide +kernel
theorem dX8_turnOf_65 : decode cX8_turnOf 65 = .ok (.i2l, 1) := by decide +kernel
theorem dX8_turnOf_66 : decode cX8_turnOf 66 = .ok (.invokestatic 121, 3) := by decide +kernel
theorem dX8_turnOf_69 : decode cX8_turnOf 69 = .ok (.lstore 8, 2) := by decide +kernel
theorem dX8_turnOf_71 : decode cX8_turnOf 71 = .ok (.iload 5, 2) := by decide +kernel
theorem dX8_turnOf_73 : decode cX8_turnOf 73 = .ok (.lload 8, 2) := by decide +kernel
theorem dX8_turnOf_75 : decode cX8_turnOf 75 = .ok (.lconst 0, 1) := by decide +kernel
theorem dX8_turnOf_76 : decode cX8_turnOf 76 = .ok (.lcmp, 1) := by decide +kernel
theorem dX8_turnOf_77 : decode cX8_turnOf 77 = .ok (.ifCond .le 7, 3) := by decide +kernel
theorem dX8_turnOf_80 : decode cX8_turnOf 80 = .ok (.iconst 1, 1) := by decide +kernel
theorem dX8_turnOf_81 : decode cX8_turnOf 81 = .ok (.goto 4, 3) := by decide +kernel
theorem dX8_turnOf_84 : decode cX8_turnOf 84 = .ok (.iconst 0, 1) := by decide +kernel
theorem dX8_turnOf_85 : decode cX8_turnOf 85 = .ok (.iadd, 1) := by decide +kernel
theorem dX8_turnOf_86 : decode cX8_turnOf 86 = .ok (.istore 5, 2) := by decide +kernel
theorem dX8_turnOf_88 : decode cX8_turnOf 88 = .ok (.iload 6, 2) := by decide +kernel
theorem dX8_turnOf_90 : decode cX8_turnOf 90 = .ok (.lload 8, 2) := by decide +kernel
theorem dX8_turnOf_92 : decode cX8_turnOf 92 = .ok (.lconst 0, 1) := by decide +kernel
theorem dX8_turnOf_93 : decode cX8_turnOf 93 = .ok (.lcmp, 1) := by decide +kernel
theorem dX8_turnOf_94 : decode cX8_turnOf 94 = .ok (.ifCond .ge 7, 3) := by decide +kernel
theorem dX8_turnOf_97 : decode cX8_turnOf 97 = .ok (.iconst 1, 1) := by decide +kernel
theorem dX8_turnOf_98 : decode cX8_turnOf 98 = .ok (.goto 4, 3) := by decide +kernel
theorem dX8_turnOf_101 : decode cX8_turnOf 101 = .ok (.iconst 0, 1) := by decide +kernel
theorem dX8_turnOf_102 : decode cX8_turnOf 102 = .ok (.iadd, 1) := by decide +kernel
theorem dX8_turnOf_103 : decode cX8_turnOf 103 = .ok (.istore 6, 2) := by decide +kernel
theorem dX8_turnOf_105 : decode cX8_turnOf 105 = .ok (.iinc 7 1, 3) := by decide +kernel
theorem dX8_turnOf_108 : decode cX8_turnOf 108 = .ok (.goto (-99), 3) := by decide +kernel
theorem dX8_turnOf_111 : decode cX8_turnOf 111 = .ok (.iload 5, 2) := by decide +kernel
theorem dX8_turnOf_113 : decode cX8_turnOf 113 = .ok (.bipush 9, 2) := by decide +kernel
theorem dX8_turnOf_115 : decode cX8_turnOf 115 = .ok (.if_icmp .ne 7, 3) := by decide +kernel
theorem dX8_turnOf_118 : decode cX8_turnOf 118 = .ok (.iconst 1, 1) := by decide +kernel
theorem dX8_turnOf_119 : decode cX8_turnOf 119 = .ok (.goto 15, 3) := by decide +kernel
theorem dX8_turnOf_122 : decode cX8_turnOf 122 = .ok (.iload 6, 2) := by decide +kernel
theorem dX8_turnOf_124 : decode cX8_turnOf 124 = .ok (.bipush 9, 2) := by decide +kernel
theorem dX8_turnOf_126 : decode cX8_turnOf 126 = .ok (.if_icmp .ne 7, 3) := by decide +kernel
theorem dX8_turnOf_129 : decode cX8_turnOf 129 = .ok (.iconst (-1), 1) := by decide +kernel
theorem dX8_turnOf_130 : decode cX8_turnOf 130 = .ok (.goto 4, 3) := by decide +kernel
theorem dX8_turnOf_133 : decode cX8_turnOf 133 = .ok (.iconst 0, 1) := by decide +kernel
theorem dX8_turnOf_134 : decode cX8_turnOf 134 = .ok (.ireturn, 1) := by decide +kernel
theorem dX8_isAcross_0 : decode cX8_isAcross 0 = .ok (.aload_n 0, 1) := by decide +kernel
theorem dX8_isAcross_1 : decode cX8_isAcross 1 = .ok (.iload_n 1, 1) := by decide +kernel
theorem dX8_isAcross_2 : decode cX8_isAcross 2 = .ok (.iload_n 2, 1) := by decide +kernel
theorem dX8_isAcross_3 : decode cX8_isAcross 3 = .ok (.iload_n 3, 1) := by decide +kernel
theorem dX8_isAcross_4 : decode cX8_isAcross 4 = .ok (.iload 4, 2) := by decide +kernel
theorem dX8_isAcross_6 : decode cX8_isAcross 6 = .ok (.iconst 1, 1) := by decide +kernel
theorem dX8_isAcross_7 : decode cX8_isAcross 7 = .ok (.iconst 3, 1) := by decide +kernel
theorem dX8_isAcross_8 : decode cX8_isAcross 8 = .ok (.invokevirtual 136, 3) := by decide +kernel
theorem dX8_isAcross_11 : decode cX8_isAcross 11 = .ok (.iconst 1, 1) := by decide +kernel
theorem dX8_isAcross_12 : decode cX8_isAcross 12 = .ok (.if_icmp .ne 22, 3) := by decide +kernel
theorem dX8_isAcross_15 : decode cX8_isAcross 15 = .ok (.aload_n 0, 1) := by decide +kernel
theorem dX8_isAcross_16 : decode cX8_isAcross 16 = .ok (.iload_n 1, 1) := by decide +kernel
theorem dX8_isAcross_17 : decode cX8_isAcross 17 = .ok (.iload_n 2, 1) := by decide +kernel
theorem dX8_isAcross_18 : decode cX8_isAcross 18 = .ok (.iload_n 3, 1) := by decide +kernel
theorem dX8_isAcross_19 : decode cX8_isAcross 19 = .ok (.iload 4, 2) := by decide +kernel
theorem dX8_isAcross_21 : decode cX8_isAcross 21 = .ok (.iconst 0, 1) := by decide +kernel
theorem dX8_isAcross_22 : decode cX8_isAcross 22 = .ok (.iconst 3, 1) := by decide +kernel
theorem dX8_isAcross_23 : decode cX8_isAcross 23 = .ok (.invokevirtual 136, 3) := by decide +kernel
theorem dX8_isAcross_26 : decode cX8_isAcross 26 = .ok (.iconst 1, 1) := by decide +kernel
theorem dX8_isAcross_27 : decode cX8_isAcross 27 = .ok (.if_icmp .ne 7, 3) := by decide +kernel
theorem dX8_isAcross_30 : decode cX8_isAcross 30 = .ok (.iconst 1, 1) := by decide +kernel
theorem dX8_isAcross_31 : decode cX8_isAcross 31 = .ok (.goto 4, 3) := by decide +kernel
theorem dX8_isAcross_34 : decode cX8_isAcross 34 = .ok (.iconst 0, 1) := by decide +kernel
theorem dX8_isAcross_35 : decode cX8_isAcross 35 = .ok (.ireturn, 1) := by decide +kernel
theorem dX8_areCrossed_0 : decode cX8_areCrossed 0 = .ok (.aload_n 0, 1) := by decide +kernel
theorem dX8_areCrossed_1 : decode cX8_areCrossed 1 = .ok (.iload_n 1, 1) := by decide +kernel
theorem dX8_areCrossed_2 : decode cX8_areCrossed 2 = .ok (.iload_n 2, 1) := by decide +kernel
theorem dX8_areCrossed_3 : decode cX8_areCrossed 3 = .ok (.iload_n 3, 1) := by decide +kernel
theorem dX8_areCrossed_4 : decode cX8_areCrossed 4 = .ok (.iload 4, 2) := by decide +kernel
theorem dX8_areCrossed_6 : decode cX8_areCrossed 6 = .ok (.invokevirtual 154, 3) := by decide +kernel
theorem dX8_areCrossed_9 : decode cX8_areCrossed 9 = .ok (.ifCond .eq 31, 3) := by decide +kernel
theorem dX8_areCrossed_12 : decode cX8_areCrossed 12 = .ok (.aload_n 0, 1) := by decide +kernel
theorem dX8_areCrossed_13 : decode cX8_areCrossed 13 = .ok (.iload_n 1, 1) := by decide +kernel
theorem dX8_areCrossed_14 : decode cX8_areCrossed 14 = .ok (.iload_n 2, 1) := by decide +kernel
theorem dX8_areCrossed_15 : decode cX8_areCrossed 15 = .ok (.iload_n 3, 1) := by decide +kernel
theorem dX8_areCrossed_16 : decode cX8_areCrossed 16 = .ok (.iload 4, 2) := by decide +kernel
theorem dX8_areCrossed_18 : decode cX8_areCrossed 18 = .ok (.invokevirtual 157, 3) := by decide +kernel
theorem dX8_areCrossed_21 : decode cX8_areCrossed 21 = .ok (.ifCond .eq 19, 3) := by decide +kernel
theorem dX8_areCrossed_24 : decode cX8_areCrossed 24 = .ok (.aload_n 0, 1) := by decide +kernel
theorem dX8_areCrossed_25 : decode cX8_areCrossed 25 = .ok (.iload_n 3, 1) := by decide +kernel
theorem dX8_areCrossed_26 : decode cX8_areCrossed 26 = .ok (.iload 4, 2) := by decide +kernel
theorem dX8_areCrossed_28 : decode cX8_areCrossed 28 = .ok (.iload_n 1, 1) := by decide +kernel
theorem dX8_areCrossed_29 : decode cX8_areCrossed 29 = .ok (.iload_n 2, 1) := by decide +kernel
theorem dX8_areCrossed_30 : decode cX8_areCrossed 30 = .ok (.invokevirtual 157, 3) := by decide +kernel
theorem dX8_areCrossed_33 : decode cX8_areCrossed 33 = .ok (.ifCond .eq 7, 3) := by decide +kernel
theorem dX8_areCrossed_36 : decode cX8_areCrossed 36 = .ok (.iconst 1, 1) := by decide +kernel
theorem dX8_areCrossed_37 : decode cX8_areCrossed 37 = .ok (.goto 4, 3) := by decide +kernel
theorem dX8_areCrossed_40 : decode cX8_areCrossed 40 = .ok (.iconst 0, 1) := by decide +kernel
theorem dX8_areCrossed_41 : decode cX8_areCrossed 41 = .ok (.ireturn, 1) := by decide +kernel
theorem dX8_point_0 : decode cX8_point 0 = .ok (.aload_n 0, 1) := by decide +kernel
theorem dX8_point_1 : decode cX8_point 1 = .ok (.iconst 0, 1) := by decide +kernel
theorem dX8_point_2 : decode cX8_point 2 = .ok (.putfield 60, 3) := by decide +kernel
theorem dX8_point_5 : decode cX8_point 5 = .ok (.aload_n 0, 1) := by decide +kernel
theorem dX8_point_6 : decode cX8_point 6 = .ok (.iload_n 1, 1) := by decide +kernel
theorem dX8_point_7 : decode cX8_point 7 = .ok (.invokevirtual 160, 3) := by decide +kernel
theorem dX8_point_10 : decode cX8_point 10 = .ok (.ifCond .eq 29, 3) := by decide +kernel
theorem dX8_point_13 : decode cX8_point 13 = .ok (.iload_n 2, 1) := by decide +kernel
theorem dX8_point_14 : decode cX8_point 14 = .ok (.invokestatic 163, 3) := by decide +kernel
theorem dX8_point_17 : decode cX8_point 17 = .ok (.ifCond .eq 22, 3) := by decide +kernel
theorem dX8_point_20 : decode cX8_point 20 = .ok (.iload_n 3, 1) := by decide +kernel
theorem dX8_point_21 : decode cX8_point 21 = .ok (.iconst 0, 1) := by decide +kernel
theorem dX8_point_22 : decode cX8_point 22 = .ok (.iconst 3, 1) := by decide +kernel
theorem dX8_point_23 : decode cX8_point 23 = .ok (.invokestatic 63, 3) := by decide +kernel
theorem dX8_point_26 : decode cX8_point 26 = .ok (.ifCond .eq 13, 3) := by decide +kernel
theorem dX8_point_29 : decode cX8_point 29 = .ok (.iload 4, 2) := by decide +kernel
theorem dX8_point_31 : decode cX8_point 31 = .ok (.iconst 0, 1) := by decide +kernel
theorem dX8_point_32 : decode cX8_point 32 = .ok (.iconst 1, 1) := by decide +kernel
theorem dX8_point_33 : decode cX8_point 33 = .ok (.invokestatic 63, 3) := by decide +kernel
theorem dX8_point_36 : decode cX8_point 36 = .ok (.ifCond .ne 6, 3) := by decide +kernel
theorem dX8_point_39 : decode cX8_point 39 = .ok (.ldc 166, 2) := by decide +kernel
theorem dX8_point_41 : decode cX8_point 41 = .ok (.ireturn, 1) := by decide +kernel
theorem dX8_point_42 : decode cX8_point 42 = .ok (.aload_n 0, 1) := by decide +kernel
theorem dX8_point_43 : decode cX8_point 43 = .ok (.invokevirtual 167, 3) := by decide +kernel
theorem dX8_point_46 : decode cX8_point 46 = .ok (.aload_n 0, 1) := by decide +kernel
theorem dX8_point_47 : decode cX8_point 47 = .ok (.iload_n 1, 1) := by decide +kernel
theorem dX8_point_48 : decode cX8_point 48 = .ok (.iload_n 2, 1) := by decide +kernel
theorem dX8_point_49 : decode cX8_point 49 = .ok (.iload_n 3, 1) := by decide +kernel
theorem dX8_point_50 : decode cX8_point 50 = .ok (.iload 4, 2) := by decide +kernel
theorem dX8_point_52 : decode cX8_point 52 = .ok (.invokevirtual 117, 3) := by decide +kernel
theorem dX8_point_55 : decode cX8_point 55 = .ok (.ireturn, 1) := by decide +kernel
theorem dX8_arePair_0 : decode cX8_arePair 0 = .ok (.aload_n 0, 1) := by decide +kernel
theorem dX8_arePair_1 : decode cX8_arePair 1 = .ok (.iload_n 1, 1) := by decide +kernel
theorem dX8_arePair_2 : decode cX8_arePair 2 = .ok (.invokevirtual 160, 3) := by decide +kernel
theorem dX8_arePair_5 : decode cX8_arePair 5 = .ok (.ifCond .eq 20, 3) := by decide +kernel
theorem dX8_arePair_8 : decode cX8_arePair 8 = .ok (.aload_n 0, 1) := by decide +kernel
theorem dX8_arePair_9 : decode cX8_arePair 9 = .ok (.iload_n 2, 1) := by decide +kernel
theorem dX8_arePair_10 : decode cX8_arePair 10 = .ok (.invokevirtual 160, 3) := by decide +kernel
theorem dX8_arePair_13 : decode cX8_arePair 13 = .ok (.ifCond .eq 12, 3) := by decide +kernel
theorem dX8_arePair_16 : decode cX8_arePair 16 = .ok (.iload_n 1, 1) := by decide +kernel
theorem dX8_arePair_17 : decode cX8_arePair 17 = .ok (.iload_n 2, 1) := by decide +kernel
theorem dX8_arePair_18 : decode cX8_arePair 18 = .ok (.if_icmp .eq 7, 3) := by decide +kernel
theorem dX8_arePair_21 : decode cX8_arePair 21 = .ok (.iconst 1, 1) := by decide +kernel
theorem dX8_arePair_22 : decode cX8_arePair 22 = .ok (.goto 4, 3) := by decide +kernel
theorem dX8_arePair_25 : decode cX8_arePair 25 = .ok (.iconst 0, 1) := by decide +kernel
theorem dX8_arePair_26 : decode cX8_arePair 26 = .ok (.ireturn, 1) := by decide +kernel
theorem dX8_apart_0 : decode cX8_apart 0 = .ok (.aload_n 0, 1) := by decide +kernel
theorem dX8_apart_1 : decode cX8_apart 1 = .ok (.iconst 0, 1) := by decide +kernel
theorem dX8_apart_2 : decode cX8_apart 2 = .ok (.putfield 60, 3) := by decide +kernel
theorem dX8_apart_5 : decode cX8_apart 5 = .ok (.aload_n 0, 1) := by decide +kernel
theorem dX8_apart_6 : decode cX8_apart 6 = .ok (.iload_n 1, 1) := by decide +kernel
theorem dX8_apart_7 : decode cX8_apart 7 = .ok (.iload_n 3, 1) := by decide +kernel
theorem dX8_apart_8 : decode cX8_apart 8 = .ok (.invokevirtual 170, 3) := by decide +kernel
theorem dX8_apart_11 : decode cX8_apart 11 = .ok (.ifCond .eq 18, 3) := by decide +kernel
theorem dX8_apart_14 : decode cX8_apart 14 = .ok (.iload_n 2, 1) := by decide +kernel
theorem dX8_apart_15 : decode cX8_apart 15 = .ok (.invokestatic 163, 3) := by decide +kernel
theorem dX8_apart_18 : decode cX8_apart 18 = .ok (.ifCond .eq 11, 3) := by decide +kernel
theorem dX8_apart_21 : decode cX8_apart 21 = .ok (.iload 4, 2) := by decide +kernel
theorem dX8_apart_23 : decode cX8_apart 23 = .ok (.invokestatic 163, 3) := by decide +kernel
theorem dX8_apart_26 : decode cX8_apart 26 = .ok (.ifCond .ne 5, 3) := by decide +kernel
theorem dX8_apart_29 : decode cX8_apart 29 = .ok (.iconst (-1), 1) := by decide +kernel
theorem dX8_apart_30 : decode cX8_apart 30 = .ok (.ireturn, 1) := by decide +kernel
theorem dX8_apart_31 : decode cX8_apart 31 = .ok (.aload_n 0, 1) := by decide +kernel
theorem dX8_apart_32 : decode cX8_apart 32 = .ok (.invokevirtual 167, 3) := by decide +kernel
theorem dX8_apart_35 : decode cX8_apart 35 = .ok (.aload_n 0, 1) := by decide +kernel
theorem dX8_apart_36 : decode cX8_apart 36 = .ok (.iload_n 1, 1) := by decide +kernel
theorem dX8_apart_37 : decode cX8_apart 37 = .ok (.iload_n 2, 1) := by decide +kernel
theorem dX8_apart_38 : decode cX8_apart 38 = .ok (.iload_n 3, 1) := by decide +kernel
theorem dX8_apart_39 : decode cX8_apart 39 = .ok (.iload 4, 2) := by decide +kernel
theorem dX8_apart_41 : decode cX8_apart 41 = .ok (.invokevirtual 174, 3) := by decide +kernel
theorem dX8_apart_44 : decode cX8_apart 44 = .ok (.ireturn, 1) := by decide +kernel
theorem dX8_turn_0 : decode cX8_turn 0 = .ok (.aload_n 0, 1) := by decide +kernel
theorem dX8_turn_1 : decode cX8_turn 1 = .ok (.iconst 0, 1) := by decide +kernel
theorem dX8_turn_2 : decode cX8_turn 2 = .ok (.putfield 60, 3) := by decide +kernel
theorem dX8_turn_5 : decode cX8_turn 5 = .ok (.aload_n 0, 1) := by decide +kernel
theorem dX8_turn_6 : decode cX8_turn 6 = .ok (.iload_n 1, 1) := by decide +kernel
theorem dX8_turn_7 : decode cX8_turn 7 = .ok (.iload_n 3, 1) := by decide +kernel
theorem dX8_turn_8 : decode cX8_turn 8 = .ok (.invokevirtual 170, 3) := by decide +kernel
theorem dX8_turn_11 : decode cX8_turn 11 = .ok (.ifCond .eq 18, 3) := by decide +kernel
theorem dX8_turn_14 : decode cX8_turn 14 = .ok (.iload_n 2, 1) := by decide +kernel
theorem dX8_turn_15 : decode cX8_turn 15 = .ok (.invokestatic 163, 3) := by decide +kernel
theorem dX8_turn_18 : decode cX8_turn 18 = .ok (.ifCond .eq 11, 3) := by decide +kernel
theorem dX8_turn_21 : decode cX8_turn 21 = .ok (.iload 4, 2) := by decide +kernel
theorem dX8_turn_23 : decode cX8_turn 23 = .ok (.invokestatic 163, 3) := by decide +kernel
theorem dX8_turn_26 : decode cX8_turn 26 = .ok (.ifCond .ne 5, 3) := by decide +kernel
theorem dX8_turn_29 : decode cX8_turn 29 = .ok (.iconst (-1), 1) := by decide +kernel
theorem dX8_turn_30 : decode cX8_turn 30 = .ok (.ireturn, 1) := by decide +kernel
theorem dX8_turn_31 : decode cX8_turn 31 = .ok (.aload_n 0, 1) := by decide +kernel
theorem dX8_turn_32 : decode cX8_turn 32 = .ok (.invokevirtual 167, 3) := by decide +kernel
theorem dX8_turn_35 : decode cX8_turn 35 = .ok (.aload_n 0, 1) := by decide +kernel
theorem dX8_turn_36 : decode cX8_turn 36 = .ok (.iload_n 1, 1) := by decide +kernel
theorem dX8_turn_37 : decode cX8_turn 37 = .ok (.iload_n 2, 1) := by decide +kernel
theorem dX8_turn_38 : decode cX8_turn 38 = .ok (.iload_n 3, 1) := by decide +kernel
theorem dX8_turn_39 : decode cX8_turn 39 = .ok (.iload 4, 2) := by decide +kernel
theorem dX8_turn_41 : decode cX8_turn 41 = .ok (.invokevirtual 154, 3) := by decide +kernel
theorem dX8_turn_44 : decode cX8_turn 44 = .ok (.istore 5, 2) := by decide +kernel
theorem dX8_turn_46 : decode cX8_turn 46 = .ok (.iload 5, 2) := by decide +kernel
theorem dX8_turn_48 : decode cX8_turn 48 = .ok (.ifCond .ne 7, 3) := by decide +kernel
theorem dX8_turn_51 : decode cX8_turn 51 = .ok (.iconst 0, 1) := by decide +kernel
theorem dX8_turn_52 : decode cX8_turn 52 = .ok (.goto 13, 3) := by decide +kernel
theorem dX8_turn_55 : decode cX8_turn 55 = .ok (.iload 5, 2) := by decide +kernel
theorem dX8_turn_57 : decode cX8_turn 57 = .ok (.ifCond .le 7, 3) := by decide +kernel
theorem dX8_turn_60 : decode cX8_turn 60 = .ok (.iconst 1, 1) := by decide +kernel
theorem dX8_turn_61 : decode cX8_turn 61 = .ok (.goto 4, 3) := by decide +kernel
theorem dX8_turn_64 : decode cX8_turn 64 = .ok (.iconst 2, 1) := by decide +kernel
theorem dX8_turn_65 : decode cX8_turn 65 = .ok (.istore 6, 2) := by decide +kernel
theorem dX8_turn_67 : decode cX8_turn 67 = .ok (.aload_n 0, 1) := by decide +kernel
theorem dX8_turn_68 : decode cX8_turn 68 = .ok (.iload_n 1, 1) := by decide +kernel
theorem dX8_turn_69 : decode cX8_turn 69 = .ok (.iload_n 2, 1) := by decide +kernel
theorem dX8_turn_70 : decode cX8_turn 70 = .ok (.iload_n 3, 1) := by decide +kernel
theorem dX8_turn_71 : decode cX8_turn 71 = .ok (.iload 4, 2) := by decide +kernel
theorem dX8_turn_73 : decode cX8_turn 73 = .ok (.invokevirtual 177, 3) := by decide +kernel
theorem dX8_turn_76 : decode cX8_turn 76 = .ok (.ifCond .eq 10, 3) := by decide +kernel
theorem dX8_turn_79 : decode cX8_turn 79 = .ok (.iload 6, 2) := by decide +kernel
theorem dX8_turn_81 : decode cX8_turn 81 = .ok (.iconst 2, 1) := by decide +kernel
theorem dX8_turn_82 : decode cX8_turn 82 = .ok (.iadd, 1) := by decide +kernel
theorem dX8_turn_83 : decode cX8_turn 83 = .ok (.goto 5, 3) := by decide +kernel
theorem dX8_turn_86 : decode cX8_turn 86 = .ok (.iload 6, 2) := by decide +kernel
theorem dX8_turn_88 : decode cX8_turn 88 = .ok (.ireturn, 1) := by decide +kernel
theorem dX8_signOf_0 : decode cX8_signOf 0 = .ok (.iload_n 0, 1) := by decide +kernel
theorem dX8_signOf_1 : decode cX8_signOf 1 = .ok (.ifCond .eq 15, 3) := by decide +kernel
theorem dX8_signOf_4 : decode cX8_signOf 4 = .ok (.iload_n 1, 1) := by decide +kernel
theorem dX8_signOf_5 : decode cX8_signOf 5 = .ok (.ifCond .eq 7, 3) := by decide +kernel
theorem dX8_signOf_8 : decode cX8_signOf 8 = .ok (.iconst 3, 1) := by decide +kernel
theorem dX8_signOf_9 : decode cX8_signOf 9 = .ok (.goto 16, 3) := by decide +kernel
theorem dX8_signOf_12 : decode cX8_signOf 12 = .ok (.iconst 1, 1) := by decide +kernel
theorem dX8_signOf_13 : decode cX8_signOf 13 = .ok (.goto 12, 3) := by decide +kernel
theorem dX8_signOf_16 : decode cX8_signOf 16 = .ok (.iload_n 1, 1) := by decide +kernel
theorem dX8_signOf_17 : decode cX8_signOf 17 = .ok (.ifCond .eq 7, 3) := by decide +kernel
theorem dX8_signOf_20 : decode cX8_signOf 20 = .ok (.iconst 2, 1) := by decide +kernel
theorem dX8_signOf_21 : decode cX8_signOf 21 = .ok (.goto 4, 3) := by decide +kernel
theorem dX8_signOf_24 : decode cX8_signOf 24 = .ok (.iconst 0, 1) := by decide +kernel
theorem dX8_signOf_25 : decode cX8_signOf 25 = .ok (.ireturn, 1) := by decide +kernel
theorem dX8_bend_0 : decode cX8_bend 0 = .ok (.aload_n 0, 1) := by decide +kernel
theorem dX8_bend_1 : decode cX8_bend 1 = .ok (.iload_n 1, 1) := by decide +kernel
theorem dX8_bend_2 : decode cX8_bend 2 = .ok (.iload_n 2, 1) := by decide +kernel
theorem dX8_bend_3 : decode cX8_bend 3 = .ok (.iload_n 3, 1) := by decide +kernel
theorem dX8_bend_4 : decode cX8_bend 4 = .ok (.iconst 0, 1) := by decide +kernel
theorem dX8_bend_5 : decode cX8_bend 5 = .ok (.invokevirtual 151, 3) := by decide +kernel
theorem dX8_bend_8 : decode cX8_bend 8 = .ok (.i2l, 1) := by decide +kernel
theorem dX8_bend_9 : decode cX8_bend 9 = .ok (.aload_n 0, 1) := by decide +kernel
theorem dX8_bend_10 : decode cX8_bend 10 = .ok (.iload_n 1, 1) := by decide +kernel
theorem dX8_bend_11 : decode cX8_bend 11 = .ok (.iload_n 2, 1) := by decide +kernel
theorem dX8_bend_12 : decode cX8_bend 12 = .ok (.iload_n 3, 1) := by decide +kernel
theorem dX8_bend_13 : decode cX8_bend 13 = .ok (.iconst 1, 1) := by decide +kernel
theorem dX8_bend_14 : decode cX8_bend 14 = .ok (.invokevirtual 151, 3) := by decide +kernel
theorem dX8_bend_17 : decode cX8_bend 17 = .ok (.i2l, 1) := by decide +kernel
theorem dX8_bend_18 : decode cX8_bend 18 = .ok (.aload_n 0, 1) := by decide +kernel
theorem dX8_bend_19 : decode cX8_bend 19 = .ok (.iload_n 1, 1) := by decide +kernel
theorem dX8_bend_20 : decode cX8_bend 20 = .ok (.iload_n 2, 1) := by decide +kernel
theorem dX8_bend_21 : decode cX8_bend 21 = .ok (.iload_n 3, 1) := by decide +kernel
theorem dX8_bend_22 : decode cX8_bend 22 = .ok (.iconst 1, 1) := by decide +kernel
theorem dX8_bend_23 : decode cX8_bend 23 = .ok (.iadd, 1) := by decide +kernel
theorem dX8_bend_24 : decode cX8_bend 24 = .ok (.iconst 0, 1) := by decide +kernel
theorem dX8_bend_25 : decode cX8_bend 25 = .ok (.invokevirtual 151, 3) := by decide +kernel
theorem dX8_bend_28 : decode cX8_bend 28 = .ok (.i2l, 1) := by decide +kernel
theorem dX8_bend_29 : decode cX8_bend 29 = .ok (.aload_n 0, 1) := by decide +kernel
theorem dX8_bend_30 : decode cX8_bend 30 = .ok (.iload_n 1, 1) := by decide +kernel
theorem dX8_bend_31 : decode cX8_bend 31 = .ok (.iload_n 2, 1) := by decide +kernel
theorem dX8_bend_32 : decode cX8_bend 32 = .ok (.iload_n 3, 1) := by decide +kernel
theorem dX8_bend_33 : decode cX8_bend 33 = .ok (.iconst 1, 1) := by decide +kernel
theorem dX8_bend_34 : decode cX8_bend 34 = .ok (.iadd, 1) := by decide +kernel
theorem dX8_bend_35 : decode cX8_bend 35 = .ok (.iconst 1, 1) := by decide +kernel
theorem dX8_bend_36 : decode cX8_bend 36 = .ok (.invokevirtual 151, 3) := by decide +kernel
theorem dX8_bend_39 : decode cX8_bend 39 = .ok (.i2l, 1) := by decide +kernel
theorem dX8_bend_40 : decode cX8_bend 40 = .ok (.invokestatic 121, 3) := by decide +kernel
theorem dX8_bend_43 : decode cX8_bend 43 = .ok (.lreturn, 1) := by decide +kernel
theorem dX8_bends_0 : decode cX8_bends 0 = .ok (.aload_n 0, 1) := by decide +kernel
theorem dX8_bends_1 : decode cX8_bends 1 = .ok (.iconst 0, 1) := by decide +kernel
theorem dX8_bends_2 : decode cX8_bends 2 = .ok (.putfield 60, 3) := by decide +kernel
theorem dX8_bends_5 : decode cX8_bends 5 = .ok (.aload_n 0, 1) := by decide +kernel
theorem dX8_bends_6 : decode cX8_bends 6 = .ok (.iload_n 1, 1) := by decide +kernel
theorem dX8_bends_7 : decode cX8_bends 7 = .ok (.invokevirtual 160, 3) := by decide +kernel
theorem dX8_bends_10 : decode cX8_bends 10 = .ok (.ifCond .eq 10, 3) := by decide +kernel
theorem dX8_bends_13 : decode cX8_bends 13 = .ok (.iload_n 2, 1) := by decide +kernel
theorem dX8_bends_14 : decode cX8_bends 14 = .ok (.invokestatic 163, 3) := by decide +kernel
theorem dX8_bends_17 : decode cX8_bends 17 = .ok (.ifCond .ne 5, 3) := by decide +kernel
theorem dX8_bends_20 : decode cX8_bends 20 = .ok (.iconst (-1), 1) := by decide +kernel
theorem dX8_bends_21 : decode cX8_bends 21 = .ok (.ireturn, 1) := by decide +kernel
theorem dX8_bends_22 : decode cX8_bends 22 = .ok (.aload_n 0, 1) := by decide +kernel
theorem dX8_bends_23 : decode cX8_bends 23 = .ok (.invokevirtual 167, 3) := by decide +kernel
theorem dX8_bends_26 : decode cX8_bends 26 = .ok (.aload_n 0, 1) := by decide +kernel
theorem dX8_bends_27 : decode cX8_bends 27 = .ok (.iload_n 1, 1) := by decide +kernel
theorem dX8_bends_28 : decode cX8_bends 28 = .ok (.iload_n 2, 1) := by decide +kernel
theorem dX8_bends_29 : decode cX8_bends 29 = .ok (.iconst 0, 1) := by decide +kernel
theorem dX8_bends_30 : decode cX8_bends 30 = .ok (.invokevirtual 180, 3) := by decide +kernel
theorem dX8_bends_33 : decode cX8_bends 33 = .ok (.lconst 0, 1) := by decide +kernel
theorem dX8_bends_34 : decode cX8_bends 34 = .ok (.lcmp, 1) := by decide +kernel
theorem dX8_bends_35 : decode cX8_bends 35 = .ok (.ifCond .gt 15, 3) := by decide +kernel
theorem dX8_bends_38 : decode cX8_bends 38 = .ok (.aload_n 0, 1) := by decide +kernel
theorem dX8_bends_39 : decode cX8_bends 39 = .ok (.iload_n 1, 1) := by decide +kernel
theorem dX8_bends_40 : decode cX8_bends 40 = .ok (.iload_n 2, 1) := by decide +kernel
theorem dX8_bends_41 : decode cX8_bends 41 = .ok (.iconst 1, 1) := by decide +kernel
theorem dX8_bends_42 : decode cX8_bends 42 = .ok (.invokevirtual 180, 3) := by decide +kernel
theorem dX8_bends_45 : decode cX8_bends 45 = .ok (.lconst 0, 1) := by decide +kernel
theorem dX8_bends_46 : decode cX8_bends 46 = .ok (.lcmp, 1) := by decide +kernel
theorem dX8_bends_47 : decode cX8_bends 47 = .ok (.ifCond .le 7, 3) := by decide +kernel
theorem dX8_bends_50 : decode cX8_bends 50 = .ok (.iconst 1, 1) := by decide +kernel
theorem dX8_bends_51 : decode cX8_bends 51 = .ok (.goto 4, 3) := by decide +kernel
theorem dX8_bends_54 : decode cX8_bends 54 = .ok (.iconst 0, 1) := by decide +kernel
theorem dX8_bends_55 : decode cX8_bends 55 = .ok (.aload_n 0, 1) := by decide +kernel
theorem dX8_bends_56 : decode cX8_bends 56 = .ok (.iload_n 1, 1) := by decide +kernel
theorem dX8_bends_57 : decode cX8_bends 57 = .ok (.iload_n 2, 1) := by decide +kernel
theorem dX8_bends_58 : decode cX8_bends 58 = .ok (.iconst 0, 1) := by decide +kernel
theorem dX8_bends_59 : decode cX8_bends 59 = .ok (.invokevirtual 180, 3) := by decide +kernel
theorem dX8_bends_62 : decode cX8_bends 62 = .ok (.lconst 0, 1) := by decide +kernel
theorem dX8_bends_63 : decode cX8_bends 63 = .ok (.lcmp, 1) := by decide +kernel
theorem dX8_bends_64 : decode cX8_bends 64 = .ok (.ifCond .lt 15, 3) := by decide +kernel
theorem dX8_bends_67 : decode cX8_bends 67 = .ok (.aload_n 0, 1) := by decide +kernel
theorem dX8_bends_68 : decode cX8_bends 68 = .ok (.iload_n 1, 1) := by decide +kernel
theorem dX8_bends_69 : decode cX8_bends 69 = .ok (.iload_n 2, 1) := by decide +kernel
theorem dX8_bends_70 : decode cX8_bends 70 = .ok (.iconst 1, 1) := by decide +kernel
theorem dX8_bends_71 : decode cX8_bends 71 = .ok (.invokevirtual 180, 3) := by decide +kernel
theorem dX8_bends_74 : decode cX8_bends 74 = .ok (.lconst 0, 1) := by decide +kernel
theorem dX8_bends_75 : decode cX8_bends 75 = .ok (.lcmp, 1) := by decide +kernel
theorem dX8_bends_76 : decode cX8_bends 76 = .ok (.ifCond .ge 7, 3) := by decide +kernel
theorem dX8_bends_79 : decode cX8_bends 79 = .ok (.iconst 1, 1) := by decide +kernel
theorem dX8_bends_80 : decode cX8_bends 80 = .ok (.goto 4, 3) := by decide +kernel
theorem dX8_bends_83 : decode cX8_bends 83 = .ok (.iconst 0, 1) := by decide +kernel
theorem dX8_bends_84 : decode cX8_bends 84 = .ok (.invokestatic 184, 3) := by decide +kernel
theorem dX8_bends_87 : decode cX8_bends 87 = .ok (.ireturn, 1) := by decide +kernel
theorem dX8_goes_0 : decode cX8_goes 0 = .ok (.aload_n 0, 1) := by decide +kernel
theorem dX8_goes_1 : decode cX8_goes 1 = .ok (.iconst 0, 1) := by decide +kernel
theorem dX8_goes_2 : decode cX8_goes 2 = .ok (.putfield 60, 3) := by decide +kernel
theorem dX8_goes_5 : decode cX8_goes 5 = .ok (.aload_n 0, 1) := by decide +kernel
theorem dX8_goes_6 : decode cX8_goes 6 = .ok (.iload_n 1, 1) := by decide +kernel
theorem dX8_goes_7 : decode cX8_goes 7 = .ok (.invokevirtual 160, 3) := by decide +kernel
theorem dX8_goes_10 : decode cX8_goes 10 = .ok (.ifCond .eq 19, 3) := by decide +kernel
theorem dX8_goes_13 : decode cX8_goes 13 = .ok (.iload_n 2, 1) := by decide +kernel
theorem dX8_goes_14 : decode cX8_goes 14 = .ok (.invokestatic 163, 3) := by decide +kernel
theorem dX8_goes_17 : decode cX8_goes 17 = .ok (.ifCond .eq 12, 3) := by decide +kernel
theorem dX8_goes_20 : decode cX8_goes 20 = .ok (.iload_n 3, 1) := by decide +kernel
theorem dX8_goes_21 : decode cX8_goes 21 = .ok (.iconst 0, 1) := by decide +kernel
theorem dX8_goes_22 : decode cX8_goes 22 = .ok (.iconst 1, 1) := by decide +kernel
theorem dX8_goes_23 : decode cX8_goes 23 = .ok (.invokestatic 63, 3) := by decide +kernel
theorem dX8_goes_26 : decode cX8_goes 26 = .ok (.ifCond .ne 5, 3) := by decide +kernel
theorem dX8_goes_29 : decode cX8_goes 29 = .ok (.iconst (-1), 1) := by decide +kernel
theorem dX8_goes_30 : decode cX8_goes 30 = .ok (.ireturn, 1) := by decide +kernel
theorem dX8_goes_31 : decode cX8_goes 31 = .ok (.aload_n 0, 1) := by decide +kernel
theorem dX8_goes_32 : decode cX8_goes 32 = .ok (.invokevirtual 167, 3) := by decide +kernel
theorem dX8_goes_35 : decode cX8_goes 35 = .ok (.iconst 0, 1) := by decide +kernel
theorem dX8_goes_36 : decode cX8_goes 36 = .ok (.istore 4, 2) := by decide +kernel
theorem dX8_goes_38 : decode cX8_goes 38 = .ok (.iconst 0, 1) := by decide +kernel
theorem dX8_goes_39 : decode cX8_goes 39 = .ok (.istore 5, 2) := by decide +kernel
theorem dX8_goes_41 : decode cX8_goes 41 = .ok (.iconst 0, 1) := by decide +kernel
theorem dX8_goes_42 : decode cX8_goes 42 = .ok (.istore 6, 2) := by decide +kernel
theorem dX8_goes_44 : decode cX8_goes 44 = .ok (.iload 6, 2) := by decide +kernel
theorem dX8_goes_46 : decode cX8_goes 46 = .ok (.iconst 3, 1) := by decide +kernel
theorem dX8_goes_47 : decode cX8_goes 47 = .ok (.if_icmp .ge 57, 3) := by decide +kernel
theorem dX8_goes_50 : decode cX8_goes 50 = .ok (.iload 4, 2) := by decide +kernel
theorem dX8_goes_52 : decode cX8_goes 52 = .ok (.ifCond .ne 15, 3) := by decide +kernel
theorem dX8_goes_55 : decode cX8_goes 55 = .ok (.aload_n 0, 1) := by decide +kernel
theorem dX8_goes_56 : decode cX8_goes 56 = .ok (.iload_n 1, 1) := by decide +kernel
theorem dX8_goes_57 : decode cX8_goes 57 = .ok (.iload_n 2, 1) := by decide +kernel
theorem dX8_goes_58 : decode cX8_goes 58 = .ok (.iload 6, 2) := by decide +kernel
theorem dX8_goes_60 : decode cX8_goes 60 = .ok (.iload_n 3, 1) := by decide +kernel
theorem dX8_goes_61 : decode cX8_goes 61 = .ok (.invokevirtual 151, 3) := by decide +kernel
theorem dX8_goes_64 : decode cX8_goes 64 = .ok (.ifCond .le 7, 3) := by decide +kernel
theorem dX8_goes_67 : decode cX8_goes 67 = .ok (.iconst 1, 1) := by decide +kernel
theorem dX8_goes_68 : decode cX8_goes 68 = .ok (.goto 4, 3) := by decide +kernel
theorem dX8_goes_71 : decode cX8_goes 71 = .ok (.iconst 0, 1) := by decide +kernel
theorem dX8_goes_72 : decode cX8_goes 72 = .ok (.istore 4, 2) := by decide +kernel
theorem dX8_goes_74 : decode cX8_goes 74 = .ok (.iload 5, 2) := by decide +kernel
theorem dX8_goes_76 : decode cX8_goes 76 = .ok (.ifCond .ne 15, 3) := by decide +kernel
theorem dX8_goes_79 : decode cX8_goes 79 = .ok (.aload_n 0, 1) := by decide +kernel
theorem dX8_goes_80 : decode cX8_goes 80 = .ok (.iload_n 1, 1) := by decide +kernel
theorem dX8_goes_81 : decode cX8_goes 81 = .ok (.iload_n 2, 1) := by decide +kernel
theorem dX8_goes_82 : decode cX8_goes 82 = .ok (.iload 6, 2) := by decide +kernel
theorem dX8_goes_84 : decode cX8_goes 84 = .ok (.iload_n 3, 1) := by decide +kernel
theorem dX8_goes_85 : decode cX8_goes 85 = .ok (.invokevirtual 151, 3) := by decide +kernel
theorem dX8_goes_88 : decode cX8_goes 88 = .ok (.ifCond .ge 7, 3) := by decide +kernel
theorem dX8_goes_91 : decode cX8_goes 91 = .ok (.iconst 1, 1) := by decide +kernel
theorem dX8_goes_92 : decode cX8_goes 92 = .ok (.goto 4, 3) := by decide +kernel
theorem dX8_goes_95 : decode cX8_goes 95 = .ok (.iconst 0, 1) := by decide +kernel
theorem dX8_goes_96 : decode cX8_goes 96 = .ok (.istore 5, 2) := by decide +kernel
theorem dX8_goes_98 : decode cX8_goes 98 = .ok (.iinc 6 1, 3) := by decide +kernel
theorem dX8_goes_101 : decode cX8_goes 101 = .ok (.goto (-57), 3) := by decide +kernel
theorem dX8_goes_104 : decode cX8_goes 104 = .ok (.iload 4, 2) := by decide +kernel
theorem dX8_goes_106 : decode cX8_goes 106 = .ok (.iload 5, 2) := by decide +kernel
theorem dX8_goes_108 : decode cX8_goes 108 = .ok (.invokestatic 184, 3) := by decide +kernel
theorem dX8_goes_111 : decode cX8_goes 111 = .ok (.ireturn, 1) := by decide +kernel
theorem dX8_crossOf_0 : decode cX8_crossOf 0 = .ok (.bipush 8, 2) := by decide +kernel
theorem dX8_crossOf_2 : decode cX8_crossOf 2 = .ok (.iload_n 1, 1) := by decide +kernel
theorem dX8_crossOf_3 : decode cX8_crossOf 3 = .ok (.imul, 1) := by decide +kernel
theorem dX8_crossOf_4 : decode cX8_crossOf 4 = .ok (.istore 4, 2) := by decide +kernel
theorem dX8_crossOf_6 : decode cX8_crossOf 6 = .ok (.aload_n 0, 1) := by decide +kernel
theorem dX8_crossOf_7 : decode cX8_crossOf 7 = .ok (.getfield 7, 3) := by decide +kernel
theorem dX8_crossOf_10 : decode cX8_crossOf 10 = .ok (.iload 4, 2) := by decide +kernel
theorem dX8_crossOf_12 : decode cX8_crossOf 12 = .ok (.iconst 2, 1) := by decide +kernel
theorem dX8_crossOf_13 : decode cX8_crossOf 13 = .ok (.iload_n 2, 1) := by decide +kernel
theorem dX8_crossOf_14 : decode cX8_crossOf 14 = .ok (.imul, 1) := by decide +kernel
theorem dX8_crossOf_15 : decode cX8_crossOf 15 = .ok (.iadd, 1) := by decide +kernel
theorem dX8_crossOf_16 : decode cX8_crossOf 16 = .ok (.iaload, 1) := by decide +kernel
theorem dX8_crossOf_17 : decode cX8_crossOf 17 = .ok (.i2l, 1) := by decide +kernel
theorem dX8_crossOf_18 : decode cX8_crossOf 18 = .ok (.aload_n 0, 1) := by decide +kernel
theorem dX8_crossOf_19 : decode cX8_crossOf 19 = .ok (.getfield 7, 3) := by decide +kernel
theorem dX8_crossOf_22 : decode cX8_crossOf 22 = .ok (.iload 4, 2) := by decide +kernel
theorem dX8_crossOf_24 : decode cX8_crossOf 24 = .ok (.iconst 2, 1) := by decide +kernel
theorem dX8_crossOf_25 : decode cX8_crossOf 25 = .ok (.iload_n 2, 1) := by decide +kernel
theorem dX8_crossOf_26 : decode cX8_crossOf 26 = .ok (.imul, 1) := by decide +kernel
theorem dX8_crossOf_27 : decode cX8_crossOf 27 = .ok (.iadd, 1) := by decide +kernel
theorem dX8_crossOf_28 : decode cX8_crossOf 28 = .ok (.iconst 1, 1) := by decide +kernel
theorem dX8_crossOf_29 : decode cX8_crossOf 29 = .ok (.iadd, 1) := by decide +kernel
theorem dX8_crossOf_30 : decode cX8_crossOf 30 = .ok (.iaload, 1) := by decide +kernel
theorem dX8_crossOf_31 : decode cX8_crossOf 31 = .ok (.i2l, 1) := by decide +kernel
theorem dX8_crossOf_32 : decode cX8_crossOf 32 = .ok (.aload_n 0, 1) := by decide +kernel
theorem dX8_crossOf_33 : decode cX8_crossOf 33 = .ok (.getfield 7, 3) := by decide +kernel
theorem dX8_crossOf_36 : decode cX8_crossOf 36 = .ok (.iload 4, 2) := by decide +kernel
theorem dX8_crossOf_38 : decode cX8_crossOf 38 = .ok (.iconst 2, 1) := by decide +kernel
theorem dX8_crossOf_39 : decode cX8_crossOf 39 = .ok (.iload_n 3, 1) := by decide +kernel
theorem dX8_crossOf_40 : decode cX8_crossOf 40 = .ok (.imul, 1) := by decide +kernel
theorem dX8_crossOf_41 : decode cX8_crossOf 41 = .ok (.iadd, 1) := by decide +kernel
theorem dX8_crossOf_42 : decode cX8_crossOf 42 = .ok (.iaload, 1) := by decide +kernel
theorem dX8_crossOf_43 : decode cX8_crossOf 43 = .ok (.i2l, 1) := by decide +kernel
theorem dX8_crossOf_44 : decode cX8_crossOf 44 = .ok (.aload_n 0, 1) := by decide +kernel
theorem dX8_crossOf_45 : decode cX8_crossOf 45 = .ok (.getfield 7, 3) := by decide +kernel
theorem dX8_crossOf_48 : decode cX8_crossOf 48 = .ok (.iload 4, 2) := by decide +kernel
theorem dX8_crossOf_50 : decode cX8_crossOf 50 = .ok (.iconst 2, 1) := by decide +kernel
theorem dX8_crossOf_51 : decode cX8_crossOf 51 = .ok (.iload_n 3, 1) := by decide +kernel
theorem dX8_crossOf_52 : decode cX8_crossOf 52 = .ok (.imul, 1) := by decide +kernel
theorem dX8_crossOf_53 : decode cX8_crossOf 53 = .ok (.iadd, 1) := by decide +kernel
theorem dX8_crossOf_54 : decode cX8_crossOf 54 = .ok (.iconst 1, 1) := by decide +kernel
theorem dX8_crossOf_55 : decode cX8_crossOf 55 = .ok (.iadd, 1) := by decide +kernel
theorem dX8_crossOf_56 : decode cX8_crossOf 56 = .ok (.iaload, 1) := by decide +kernel
theorem dX8_crossOf_57 : decode cX8_crossOf 57 = .ok (.i2l, 1) := by decide +kernel
theorem dX8_crossOf_58 : decode cX8_crossOf 58 = .ok (.invokestatic 121, 3) := by decide +kernel
theorem dX8_crossOf_61 : decode cX8_crossOf 61 = .ok (.l2i, 1) := by decide +kernel
theorem dX8_crossOf_62 : decode cX8_crossOf 62 = .ok (.ireturn, 1) := by decide +kernel
theorem dX8_areaOf_0 : decode cX8_areaOf 0 = .ok (.bipush 6, 2) := by decide +kernel
theorem dX8_areaOf_2 : decode cX8_areaOf 2 = .ok (.aload_n 0, 1) := by decide +kernel
theorem dX8_areaOf_3 : decode cX8_areaOf 3 = .ok (.iload_n 1, 1) := by decide +kernel
theorem dX8_areaOf_4 : decode cX8_areaOf 4 = .ok (.iconst 0, 1) := by decide +kernel
theorem dX8_areaOf_5 : decode cX8_areaOf 5 = .ok (.iconst 1, 1) := by decide +kernel
theorem dX8_areaOf_6 : decode cX8_areaOf 6 = .ok (.invokevirtual 188, 3) := by decide +kernel
theorem dX8_areaOf_9 : decode cX8_areaOf 9 = .ok (.imul, 1) := by decide +kernel
theorem dX8_areaOf_10 : decode cX8_areaOf 10 = .ok (.iconst 3, 1) := by decide +kernel
theorem dX8_areaOf_11 : decode cX8_areaOf 11 = .ok (.aload_n 0, 1) := by decide +kernel
theorem dX8_areaOf_12 : decode cX8_areaOf 12 = .ok (.iload_n 1, 1) := by decide +kernel
theorem dX8_areaOf_13 : decode cX8_areaOf 13 = .ok (.iconst 0, 1) := by decide +kernel
theorem dX8_areaOf_14 : decode cX8_areaOf 14 = .ok (.iconst 2, 1) := by decide +kernel
theorem dX8_areaOf_15 : decode cX8_areaOf 15 = .ok (.invokevirtual 188, 3) := by decide +kernel
theorem dX8_areaOf_18 : decode cX8_areaOf 18 = .ok (.imul, 1) := by decide +kernel
theorem dX8_areaOf_19 : decode cX8_areaOf 19 = .ok (.iadd, 1) := by decide +kernel
theorem dX8_areaOf_20 : decode cX8_areaOf 20 = .ok (.aload_n 0, 1) := by decide +kernel
theorem dX8_areaOf_21 : decode cX8_areaOf 21 = .ok (.iload_n 1, 1) := by decide +kernel
theorem dX8_areaOf_22 : decode cX8_areaOf 22 = .ok (.iconst 0, 1) := by decide +kernel
theorem dX8_areaOf_23 : decode cX8_areaOf 23 = .ok (.iconst 3, 1) := by decide +kernel
theorem dX8_areaOf_24 : decode cX8_areaOf 24 = .ok (.invokevirtual 188, 3) := by decide +kernel
theorem dX8_areaOf_27 : decode cX8_areaOf 27 = .ok (.iadd, 1) := by decide +kernel
theorem dX8_areaOf_28 : decode cX8_areaOf 28 = .ok (.iconst 3, 1) := by decide +kernel
theorem dX8_areaOf_29 : decode cX8_areaOf 29 = .ok (.aload_n 0, 1) := by decide +kernel
theorem dX8_areaOf_30 : decode cX8_areaOf 30 = .ok (.iload_n 1, 1) := by decide +kernel
theorem dX8_areaOf_31 : decode cX8_areaOf 31 = .ok (.iconst 1, 1) := by decide +kernel
theorem dX8_areaOf_32 : decode cX8_areaOf 32 = .ok (.iconst 2, 1) := by decide +kernel
theorem dX8_areaOf_33 : decode cX8_areaOf 33 = .ok (.invokevirtual 188, 3) := by decide +kernel
theorem dX8_areaOf_36 : decode cX8_areaOf 36 = .ok (.imul, 1) := by decide +kernel
theorem dX8_areaOf_37 : decode cX8_areaOf 37 = .ok (.iadd, 1) := by decide +kernel
theorem dX8_areaOf_38 : decode cX8_areaOf 38 = .ok (.iconst 3, 1) := by decide +kernel
theorem dX8_areaOf_39 : decode cX8_areaOf 39 = .ok (.aload_n 0, 1) := by decide +kernel
theorem dX8_areaOf_40 : decode cX8_areaOf 40 = .ok (.iload_n 1, 1) := by decide +kernel
theorem dX8_areaOf_41 : decode cX8_areaOf 41 = .ok (.iconst 1, 1) := by decide +kernel
theorem dX8_areaOf_42 : decode cX8_areaOf 42 = .ok (.iconst 3, 1) := by decide +kernel
theorem dX8_areaOf_43 : decode cX8_areaOf 43 = .ok (.invokevirtual 188, 3) := by decide +kernel
theorem dX8_areaOf_46 : decode cX8_areaOf 46 = .ok (.imul, 1) := by decide +kernel
theorem dX8_areaOf_47 : decode cX8_areaOf 47 = .ok (.iadd, 1) := by decide +kernel
theorem dX8_areaOf_48 : decode cX8_areaOf 48 = .ok (.bipush 6, 2) := by decide +kernel
theorem dX8_areaOf_50 : decode cX8_areaOf 50 = .ok (.aload_n 0, 1) := by decide +kernel
theorem dX8_areaOf_51 : decode cX8_areaOf 51 = .ok (.iload_n 1, 1) := by decide +kernel
theorem dX8_areaOf_52 : decode cX8_areaOf 52 = .ok (.iconst 2, 1) := by decide +kernel
theorem dX8_areaOf_53 : decode cX8_areaOf 53 = .ok (.iconst 3, 1) := by decide +kernel
theorem dX8_areaOf_54 : decode cX8_areaOf 54 = .ok (.invokevirtual 188, 3) := by decide +kernel
theorem dX8_areaOf_57 : decode cX8_areaOf 57 = .ok (.imul, 1) := by decide +kernel
theorem dX8_areaOf_58 : decode cX8_areaOf 58 = .ok (.iadd, 1) := by decide +kernel
theorem dX8_areaOf_59 : decode cX8_areaOf 59 = .ok (.ireturn, 1) := by decide +kernel
theorem dX8_area_0 : decode cX8_area 0 = .ok (.aload_n 0, 1) := by decide +kernel
theorem dX8_area_1 : decode cX8_area 1 = .ok (.iconst 0, 1) := by decide +kernel
theorem dX8_area_2 : decode cX8_area 2 = .ok (.putfield 60, 3) := by decide +kernel
theorem dX8_area_5 : decode cX8_area 5 = .ok (.iload_n 1, 1) := by decide +kernel
theorem dX8_area_6 : decode cX8_area 6 = .ok (.iconst (-1), 1) := by decide +kernel
theorem dX8_area_7 : decode cX8_area 7 = .ok (.if_icmp .eq 11, 3) := by decide +kernel
theorem dX8_area_10 : decode cX8_area 10 = .ok (.aload_n 0, 1) := by decide +kernel
theorem dX8_area_11 : decode cX8_area 11 = .ok (.iload_n 1, 1) := by decide +kernel
theorem dX8_area_12 : decode cX8_area 12 = .ok (.invokevirtual 160, 3) := by decide +kernel
theorem dX8_area_15 : decode cX8_area 15 = .ok (.ifCond .eq 12, 3) := by decide +kernel
theorem dX8_area_18 : decode cX8_area 18 = .ok (.iload_n 2, 1) := by decide +kernel
theorem dX8_area_19 : decode cX8_area 19 = .ok (.iconst 0, 1) := by decide +kernel
theorem dX8_area_20 : decode cX8_area 20 = .ok (.iconst 1, 1) := by decide +kernel
theorem dX8_area_21 : decode cX8_area 21 = .ok (.invokestatic 63, 3) := by decide +kernel
theorem dX8_area_24 : decode cX8_area 24 = .ok (.ifCond .ne 6, 3) := by decide +kernel
theorem dX8_area_27 : decode cX8_area 27 = .ok (.ldc 166, 2) := by decide +kernel
theorem dX8_area_29 : decode cX8_area 29 = .ok (.ireturn, 1) := by decide +kernel
theorem dX8_area_30 : decode cX8_area 30 = .ok (.iconst 0, 1) := by decide +kernel
theorem dX8_area_31 : decode cX8_area 31 = .ok (.istore_n 3, 1) := by decide +kernel
theorem dX8_area_32 : decode cX8_area 32 = .ok (.iconst 0, 1) := by decide +kernel
theorem dX8_area_33 : decode cX8_area 33 = .ok (.istore 4, 2) := by decide +kernel
theorem dX8_area_35 : decode cX8_area 35 = .ok (.iload 4, 2) := by decide +kernel
theorem dX8_area_37 : decode cX8_area 37 = .ok (.aload_n 0, 1) := by decide +kernel
theorem dX8_area_38 : decode cX8_area 38 = .ok (.getfield 56, 3) := by decide +kernel
theorem dX8_area_41 : decode cX8_area 41 = .ok (.if_icmp .ge 33, 3) := by decide +kernel
theorem dX8_area_44 : decode cX8_area 44 = .ok (.iload_n 3, 1) := by decide +kernel
theorem dX8_area_45 : decode cX8_area 45 = .ok (.iload_n 1, 1) := by decide +kernel
theorem dX8_area_46 : decode cX8_area 46 = .ok (.iconst (-1), 1) := by decide +kernel
theorem dX8_area_47 : decode cX8_area 47 = .ok (.if_icmp .eq 9, 3) := by decide +kernel
theorem dX8_area_50 : decode cX8_area 50 = .ok (.iload_n 1, 1) := by decide +kernel
theorem dX8_area_51 : decode cX8_area 51 = .ok (.iload 4, 2) := by decide +kernel
theorem dX8_area_53 : decode cX8_area 53 = .ok (.if_icmp .ne 12, 3) := by decide +kernel
theorem dX8_area_56 : decode cX8_area 56 = .ok (.aload_n 0, 1) := by decide +kernel
theorem dX8_area_57 : decode cX8_area 57 = .ok (.iload 4, 2) := by decide +kernel
theorem dX8_area_59 : decode cX8_area 59 = .ok (.invokevirtual 192, 3) := by decide +kernel
theorem dX8_area_62 : decode cX8_area 62 = .ok (.goto 4, 3) := by decide +kernel
theorem dX8_area_65 : decode cX8_area 65 = .ok (.iconst 0, 1) := by decide +kernel
theorem dX8_area_66 : decode cX8_area 66 = .ok (.iadd, 1) := by decide +kernel
theorem dX8_area_67 : decode cX8_area 67 = .ok (.istore_n 3, 1) := by decide +kernel
theorem dX8_area_68 : decode cX8_area 68 = .ok (.iinc 4 1, 3) := by decide +kernel
theorem dX8_area_71 : decode cX8_area 71 = .ok (.goto (-36), 3) := by decide +kernel
theorem dX8_area_74 : decode cX8_area 74 = .ok (.bipush 20, 2) := by decide +kernel
theorem dX8_area_76 : decode cX8_area 76 = .ok (.istore 4, 2) := by decide +kernel
theorem dX8_area_78 : decode cX8_area 78 = .ok (.iload_n 3, 1) := by decide +kernel
theorem dX8_area_79 : decode cX8_area 79 = .ok (.ifCond .ge 8, 3) := by decide +kernel
theorem dX8_area_82 : decode cX8_area 82 = .ok (.iload_n 3, 1) := by decide +kernel
theorem dX8_area_83 : decode cX8_area 83 = .ok (.ineg, 1) := by decide +kernel
theorem dX8_area_84 : decode cX8_area 84 = .ok (.goto 4, 3) := by decide +kernel
theorem dX8_area_87 : decode cX8_area 87 = .ok (.iload_n 3, 1) := by decide +kernel
theorem dX8_area_88 : decode cX8_area 88 = .ok (.istore 5, 2) := by decide +kernel
theorem dX8_area_90 : decode cX8_area 90 = .ok (.iload 5, 2) := by decide +kernel
theorem dX8_area_92 : decode cX8_area 92 = .ok (.ifCond .eq 21, 3) := by decide +kernel
theorem dX8_area_95 : decode cX8_area 95 = .ok (.iload 4, 2) := by decide +kernel
theorem dX8_area_97 : decode cX8_area 97 = .ok (.iload 5, 2) := by decide +kernel
theorem dX8_area_99 : decode cX8_area 99 = .ok (.irem, 1) := by decide +kernel
theorem dX8_area_100 : decode cX8_area 100 = .ok (.istore 6, 2) := by decide +kernel
theorem dX8_area_102 : decode cX8_area 102 = .ok (.iload 5, 2) := by decide +kernel
theorem dX8_area_104 : decode cX8_area 104 = .ok (.istore 4, 2) := by decide +kernel
theorem dX8_area_106 : decode cX8_area 106 = .ok (.iload 6, 2) := by decide +kernel
theorem dX8_area_108 : decode cX8_area 108 = .ok (.istore 5, 2) := by decide +kernel
theorem dX8_area_110 : decode cX8_area 110 = .ok (.goto (-20), 3) := by decide +kernel
theorem dX8_area_113 : decode cX8_area 113 = .ok (.iload_n 2, 1) := by decide +kernel
theorem dX8_area_114 : decode cX8_area 114 = .ok (.ifCond .ne 10, 3) := by decide +kernel
theorem dX8_area_117 : decode cX8_area 117 = .ok (.iload_n 3, 1) := by decide +kernel
theorem dX8_area_118 : decode cX8_area 118 = .ok (.iload 4, 2) := by decide +kernel
theorem dX8_area_120 : decode cX8_area 120 = .ok (.idiv, 1) := by decide +kernel
theorem dX8_area_121 : decode cX8_area 121 = .ok (.goto 8, 3) := by decide +kernel
theorem dX8_area_124 : decode cX8_area 124 = .ok (.bipush 20, 2) := by decide +kernel
theorem dX8_area_126 : decode cX8_area 126 = .ok (.iload 4, 2) := by decide +kernel
theorem dX8_area_128 : decode cX8_area 128 = .ok (.idiv, 1) := by decide +kernel
theorem dX8_area_129 : decode cX8_area 129 = .ok (.ireturn, 1) := by decide +kernel
theorem dX8_waits_0 : decode cX8_waits 0 = .ok (.aload_n 0, 1) := by decide +kernel
theorem dX8_waits_1 : decode cX8_waits 1 = .ok (.getfield 50, 3) := by decide +kernel
theorem dX8_waits_4 : decode cX8_waits 4 = .ok (.aload_n 0, 1) := by decide +kernel
theorem dX8_waits_5 : decode cX8_waits 5 = .ok (.getfield 195, 3) := by decide +kernel
theorem dX8_waits_8 : decode cX8_waits 8 = .ok (.iload_n 1, 1) := by decide +kernel
theorem dX8_waits_9 : decode cX8_waits 9 = .ok (.iastore, 1) := by decide +kernel
theorem dX8_waits_10 : decode cX8_waits 10 = .ok (.aload_n 0, 1) := by decide +kernel
theorem dX8_waits_11 : decode cX8_waits 11 = .ok (.getfield 53, 3) := by decide +kernel
theorem dX8_waits_14 : decode cX8_waits 14 = .ok (.aload_n 0, 1) := by decide +kernel
theorem dX8_waits_15 : decode cX8_waits 15 = .ok (.getfield 195, 3) := by decide +kernel
theorem dX8_waits_18 : decode cX8_waits 18 = .ok (.iload_n 2, 1) := by decide +kernel
theorem dX8_waits_19 : decode cX8_waits 19 = .ok (.iastore, 1) := by decide +kernel
theorem dX8_waits_20 : decode cX8_waits 20 = .ok (.aload_n 0, 1) := by decide +kernel
theorem dX8_waits_21 : decode cX8_waits 21 = .ok (.dup, 1) := by decide +kernel
theorem dX8_waits_22 : decode cX8_waits 22 = .ok (.getfield 195, 3) := by decide +kernel
theorem dX8_waits_25 : decode cX8_waits 25 = .ok (.iconst 1, 1) := by decide +kernel
theorem dX8_waits_26 : decode cX8_waits 26 = .ok (.iadd, 1) := by decide +kernel
theorem dX8_waits_27 : decode cX8_waits 27 = .ok (.putfield 195, 3) := by decide +kernel
theorem dX8_waits_30 : decode cX8_waits 30 = .ok (.return_, 1) := by decide +kernel
theorem dX8_isTooMany_0 : decode cX8_isTooMany 0 = .ok (.aload_n 0, 1) := by decide +kernel
theorem dX8_isTooMany_1 : decode cX8_isTooMany 1 = .ok (.iload_n 1, 1) := by decide +kernel
theorem dX8_isTooMany_2 : decode cX8_isTooMany 2 = .ok (.iload_n 2, 1) := by decide +kernel
theorem dX8_isTooMany_3 : decode cX8_isTooMany 3 = .ok (.iload_n 3, 1) := by decide +kernel
theorem dX8_isTooMany_4 : decode cX8_isTooMany 4 = .ok (.iload 4, 2) := by decide +kernel
theorem dX8_isTooMany_6 : decode cX8_isTooMany 6 = .ok (.invokevirtual 174, 3) := by decide +kernel
theorem dX8_isTooMany_9 : decode cX8_isTooMany 9 = .ok (.ifCond .eq 5, 3) := by decide +kernel
theorem dX8_isTooMany_12 : decode cX8_isTooMany 12 = .ok (.iconst 0, 1) := by decide +kernel
theorem dX8_isTooMany_13 : decode cX8_isTooMany 13 = .ok (.ireturn, 1) := by decide +kernel
theorem dX8_isTooMany_14 : decode cX8_isTooMany 14 = .ok (.aload_n 0, 1) := by decide +kernel
theorem dX8_isTooMany_15 : decode cX8_isTooMany 15 = .ok (.iload_n 1, 1) := by decide +kernel
theorem dX8_isTooMany_16 : decode cX8_isTooMany 16 = .ok (.iload_n 2, 1) := by decide +kernel
theorem dX8_isTooMany_17 : decode cX8_isTooMany 17 = .ok (.iload_n 3, 1) := by decide +kernel
theorem dX8_isTooMany_18 : decode cX8_isTooMany 18 = .ok (.iload 4, 2) := by decide +kernel
theorem dX8_isTooMany_20 : decode cX8_isTooMany 20 = .ok (.invokevirtual 177, 3) := by decide +kernel
theorem dX8_isTooMany_23 : decode cX8_isTooMany 23 = .ok (.istore 5, 2) := by decide +kernel
theorem dX8_isTooMany_25 : decode cX8_isTooMany 25 = .ok (.iload 5, 2) := by decide +kernel
theorem dX8_isTooMany_27 : decode cX8_isTooMany 27 = .ok (.ifCond .ne 65, 3) := by decide +kernel
theorem dX8_isTooMany_30 : decode cX8_isTooMany 30 = .ok (.iload_n 2, 1) := by decide +kernel
theorem dX8_isTooMany_31 : decode cX8_isTooMany 31 = .ok (.invokestatic 103, 3) := by decide +kernel
theorem dX8_isTooMany_34 : decode cX8_isTooMany 34 = .ok (.iconst 5, 1) := by decide +kernel
theorem dX8_isTooMany_35 : decode cX8_isTooMany 35 = .ok (.if_icmp .ge 57, 3) := by decide +kernel
theorem dX8_isTooMany_38 : decode cX8_isTooMany 38 = .ok (.aload_n 0, 1) := by decide +kernel
theorem dX8_isTooMany_39 : decode cX8_isTooMany 39 = .ok (.iconst 2, 1) := by decide +kernel
theorem dX8_isTooMany_40 : decode cX8_isTooMany 40 = .ok (.iload_n 2, 1) := by decide +kernel
theorem dX8_isTooMany_41 : decode cX8_isTooMany 41 = .ok (.imul, 1) := by decide +kernel
theorem dX8_isTooMany_42 : decode cX8_isTooMany 42 = .ok (.iconst 1, 1) := by decide +kernel
theorem dX8_isTooMany_43 : decode cX8_isTooMany 43 = .ok (.iadd, 1) := by decide +kernel
theorem dX8_isTooMany_44 : decode cX8_isTooMany 44 = .ok (.iconst 2, 1) := by decide +kernel
theorem dX8_isTooMany_45 : decode cX8_isTooMany 45 = .ok (.iload 4, 2) := by decide +kernel
theorem dX8_isTooMany_47 : decode cX8_isTooMany 47 = .ok (.imul, 1) := by decide +kernel
theorem dX8_isTooMany_48 : decode cX8_isTooMany 48 = .ok (.iconst 1, 1) := by decide +kernel
theorem dX8_isTooMany_49 : decode cX8_isTooMany 49 = .ok (.iadd, 1) := by decide +kernel
theorem dX8_isTooMany_50 : decode cX8_isTooMany 50 = .ok (.invokevirtual 198, 3) := by decide +kernel
theorem dX8_isTooMany_53 : decode cX8_isTooMany 53 = .ok (.aload_n 0, 1) := by decide +kernel
theorem dX8_isTooMany_54 : decode cX8_isTooMany 54 = .ok (.iconst 2, 1) := by decide +kernel
theorem dX8_isTooMany_55 : decode cX8_isTooMany 55 = .ok (.iload_n 2, 1) := by decide +kernel
theorem dX8_isTooMany_56 : decode cX8_isTooMany 56 = .ok (.imul, 1) := by decide +kernel
theorem dX8_isTooMany_57 : decode cX8_isTooMany 57 = .ok (.iconst 1, 1) := by decide +kernel
theorem dX8_isTooMany_58 : decode cX8_isTooMany 58 = .ok (.iadd, 1) := by decide +kernel
theorem dX8_isTooMany_59 : decode cX8_isTooMany 59 = .ok (.iconst 2, 1) := by decide +kernel
theorem dX8_isTooMany_60 : decode cX8_isTooMany 60 = .ok (.iload 4, 2) := by decide +kernel
theorem dX8_isTooMany_62 : decode cX8_isTooMany 62 = .ok (.imul, 1) := by decide +kernel
theorem dX8_isTooMany_63 : decode cX8_isTooMany 63 = .ok (.invokevirtual 198, 3) := by decide +kernel
theorem dX8_isTooMany_66 : decode cX8_isTooMany 66 = .ok (.aload_n 0, 1) := by decide +kernel
theorem dX8_isTooMany_67 : decode cX8_isTooMany 67 = .ok (.iconst 2, 1) := by decide +kernel
theorem dX8_isTooMany_68 : decode cX8_isTooMany 68 = .ok (.iload_n 2, 1) := by decide +kernel
theorem dX8_isTooMany_69 : decode cX8_isTooMany 69 = .ok (.imul, 1) := by decide +kernel
theorem dX8_isTooMany_70 : decode cX8_isTooMany 70 = .ok (.iconst 2, 1) := by decide +kernel
theorem dX8_isTooMany_71 : decode cX8_isTooMany 71 = .ok (.iload 4, 2) := by decide +kernel
theorem dX8_isTooMany_73 : decode cX8_isTooMany 73 = .ok (.imul, 1) := by decide +kernel
theorem dX8_isTooMany_74 : decode cX8_isTooMany 74 = .ok (.iconst 1, 1) := by decide +kernel
theorem dX8_isTooMany_75 : decode cX8_isTooMany 75 = .ok (.iadd, 1) := by decide +kernel
theorem dX8_isTooMany_76 : decode cX8_isTooMany 76 = .ok (.invokevirtual 198, 3) := by decide +kernel
theorem dX8_isTooMany_79 : decode cX8_isTooMany 79 = .ok (.aload_n 0, 1) := by decide +kernel
theorem dX8_isTooMany_80 : decode cX8_isTooMany 80 = .ok (.iconst 2, 1) := by decide +kernel
theorem dX8_isTooMany_81 : decode cX8_isTooMany 81 = .ok (.iload_n 2, 1) := by decide +kernel
theorem dX8_isTooMany_82 : decode cX8_isTooMany 82 = .ok (.imul, 1) := by decide +kernel
theorem dX8_isTooMany_83 : decode cX8_isTooMany 83 = .ok (.iconst 2, 1) := by decide +kernel
theorem dX8_isTooMany_84 : decode cX8_isTooMany 84 = .ok (.iload 4, 2) := by decide +kernel
theorem dX8_isTooMany_86 : decode cX8_isTooMany 86 = .ok (.imul, 1) := by decide +kernel
theorem dX8_isTooMany_87 : decode cX8_isTooMany 87 = .ok (.invokevirtual 198, 3) := by decide +kernel
theorem dX8_isTooMany_90 : decode cX8_isTooMany 90 = .ok (.iconst 0, 1) := by decide +kernel
theorem dX8_isTooMany_91 : decode cX8_isTooMany 91 = .ok (.ireturn, 1) := by decide +kernel
theorem dX8_isTooMany_92 : decode cX8_isTooMany 92 = .ok (.aload_n 0, 1) := by decide +kernel
theorem dX8_isTooMany_93 : decode cX8_isTooMany 93 = .ok (.getfield 202, 3) := by decide +kernel
theorem dX8_isTooMany_96 : decode cX8_isTooMany 96 = .ok (.bipush 100, 2) := by decide +kernel
theorem dX8_isTooMany_98 : decode cX8_isTooMany 98 = .ok (.if_icmp .ne 5, 3) := by decide +kernel
theorem dX8_isTooMany_101 : decode cX8_isTooMany 101 = .ok (.iconst 1, 1) := by decide +kernel
theorem dX8_isTooMany_102 : decode cX8_isTooMany 102 = .ok (.ireturn, 1) := by decide +kernel
theorem dX8_isTooMany_103 : decode cX8_isTooMany 103 = .ok (.aload_n 0, 1) := by decide +kernel
theorem dX8_isTooMany_104 : decode cX8_isTooMany 104 = .ok (.getfield 38, 3) := by decide +kernel
theorem dX8_isTooMany_107 : decode cX8_isTooMany 107 = .ok (.aload_n 0, 1) := by decide +kernel
theorem dX8_isTooMany_108 : decode cX8_isTooMany 108 = .ok (.getfield 202, 3) := by decide +kernel
theorem dX8_isTooMany_111 : decode cX8_isTooMany 111 = .ok (.iload_n 2, 1) := by decide +kernel
theorem dX8_isTooMany_112 : decode cX8_isTooMany 112 = .ok (.iastore, 1) := by decide +kernel
theorem dX8_isTooMany_113 : decode cX8_isTooMany 113 = .ok (.aload_n 0, 1) := by decide +kernel
theorem dX8_isTooMany_114 : decode cX8_isTooMany 114 = .ok (.getfield 41, 3) := by decide +kernel
theorem dX8_isTooMany_117 : decode cX8_isTooMany 117 = .ok (.aload_n 0, 1) := by decide +kernel
theorem dX8_isTooMany_118 : decode cX8_isTooMany 118 = .ok (.getfield 202, 3) := by decide +kernel
theorem dX8_isTooMany_121 : decode cX8_isTooMany 121 = .ok (.iload 4, 2) := by decide +kernel
theorem dX8_isTooMany_123 : decode cX8_isTooMany 123 = .ok (.iastore, 1) := by decide +kernel
theorem dX8_isTooMany_124 : decode cX8_isTooMany 124 = .ok (.aload_n 0, 1) := by decide +kernel
theorem dX8_isTooMany_125 : decode cX8_isTooMany 125 = .ok (.getfield 44, 3) := by decide +kernel
theorem dX8_isTooMany_128 : decode cX8_isTooMany 128 = .ok (.aload_n 0, 1) := by decide +kernel
theorem dX8_isTooMany_129 : decode cX8_isTooMany 129 = .ok (.getfield 202, 3) := by decide +kernel
theorem dX8_isTooMany_132 : decode cX8_isTooMany 132 = .ok (.iload 5, 2) := by decide +kernel
theorem dX8_isTooMany_134 : decode cX8_isTooMany 134 = .ok (.bastore, 1) := by decide +kernel
theorem dX8_isTooMany_135 : decode cX8_isTooMany 135 = .ok (.aload_n 0, 1) := by decide +kernel
theorem dX8_isTooMany_136 : decode cX8_isTooMany 136 = .ok (.getfield 47, 3) := by decide +kernel
theorem dX8_isTooMany_139 : decode cX8_isTooMany 139 = .ok (.aload_n 0, 1) := by decide +kernel
theorem dX8_isTooMany_140 : decode cX8_isTooMany 140 = .ok (.getfield 202, 3) := by decide +kernel
theorem dX8_isTooMany_143 : decode cX8_isTooMany 143 = .ok (.aload_n 0, 1) := by decide +kernel
theorem dX8_isTooMany_144 : decode cX8_isTooMany 144 = .ok (.getfield 202, 3) := by decide +kernel
theorem dX8_isTooMany_147 : decode cX8_isTooMany 147 = .ok (.iastore, 1) := by decide +kernel
theorem dX8_isTooMany_148 : decode cX8_isTooMany 148 = .ok (.aload_n 0, 1) := by decide +kernel
theorem dX8_isTooMany_149 : decode cX8_isTooMany 149 = .ok (.dup, 1) := by decide +kernel
theorem dX8_isTooMany_150 : decode cX8_isTooMany 150 = .ok (.getfield 202, 3) := by decide +kernel
theorem dX8_isTooMany_153 : decode cX8_isTooMany 153 = .ok (.iconst 1, 1) := by decide +kernel
theorem dX8_isTooMany_154 : decode cX8_isTooMany 154 = .ok (.iadd, 1) := by decide +kernel
theorem dX8_isTooMany_155 : decode cX8_isTooMany 155 = .ok (.putfield 202, 3) := by decide +kernel
theorem dX8_isTooMany_158 : decode cX8_isTooMany 158 = .ok (.iconst 0, 1) := by decide +kernel
theorem dX8_isTooMany_159 : decode cX8_isTooMany 159 = .ok (.ireturn, 1) := by decide +kernel
theorem dX8_areNear_0 : decode cX8_areNear 0 = .ok (.aload_n 0, 1) := by decide +kernel
theorem dX8_areNear_1 : decode cX8_areNear 1 = .ok (.getfield 44, 3) := by decide +kernel
theorem dX8_areNear_4 : decode cX8_areNear 4 = .ok (.iload_n 1, 1) := by decide +kernel
theorem dX8_areNear_5 : decode cX8_areNear 5 = .ok (.baload, 1) := by decide +kernel
theorem dX8_areNear_6 : decode cX8_areNear 6 = .ok (.ifCond .ne 58, 3) := by decide +kernel
theorem dX8_areNear_9 : decode cX8_areNear 9 = .ok (.aload_n 0, 1) := by decide +kernel
theorem dX8_areNear_10 : decode cX8_areNear 10 = .ok (.getfield 44, 3) := by decide +kernel
theorem dX8_areNear_13 : decode cX8_areNear 13 = .ok (.iload_n 2, 1) := by decide +kernel
theorem dX8_areNear_14 : decode cX8_areNear 14 = .ok (.baload, 1) := by decide +kernel
theorem dX8_areNear_15 : decode cX8_areNear 15 = .ok (.ifCond .ne 49, 3) := by decide +kernel
theorem dX8_areNear_18 : decode cX8_areNear 18 = .ok (.aload_n 0, 1) := by decide +kernel
theorem dX8_areNear_19 : decode cX8_areNear 19 = .ok (.getfield 38, 3) := by decide +kernel
theorem dX8_areNear_22 : decode cX8_areNear 22 = .ok (.iload_n 1, 1) := by decide +kernel
theorem dX8_areNear_23 : decode cX8_areNear 23 = .ok (.iaload, 1) := by decide +kernel
theorem dX8_areNear_24 : decode cX8_areNear 24 = .ok (.aload_n 0, 1) := by decide +kernel
theorem dX8_areNear_25 : decode cX8_areNear 25 = .ok (.getfield 38, 3) := by decide +kernel
theorem dX8_areNear_28 : decode cX8_areNear 28 = .ok (.iload_n 2, 1) := by decide +kernel
theorem dX8_areNear_29 : decode cX8_areNear 29 = .ok (.iaload, 1) := by decide +kernel
theorem dX8_areNear_30 : decode cX8_areNear 30 = .ok (.isub, 1) := by decide +kernel
theorem dX8_areNear_31 : decode cX8_areNear 31 = .ok (.iconst (-1), 1) := by decide +kernel
theorem dX8_areNear_32 : decode cX8_areNear 32 = .ok (.iconst 1, 1) := by decide +kernel
theorem dX8_areNear_33 : decode cX8_areNear 33 = .ok (.invokestatic 63, 3) := by decide +kernel
theorem dX8_areNear_36 : decode cX8_areNear 36 = .ok (.ifCond .eq 28, 3) := by decide +kernel
theorem dX8_areNear_39 : decode cX8_areNear 39 = .ok (.aload_n 0, 1) := by decide +kernel
theorem dX8_areNear_40 : decode cX8_areNear 40 = .ok (.getfield 41, 3) := by decide +kernel
theorem dX8_areNear_43 : decode cX8_areNear 43 = .ok (.iload_n 1, 1) := by decide +kernel
theorem dX8_areNear_44 : decode cX8_areNear 44 = .ok (.iaload, 1) := by decide +kernel
theorem dX8_areNear_45 : decode cX8_areNear 45 = .ok (.aload_n 0, 1) := by decide +kernel
theorem dX8_areNear_46 : decode cX8_areNear 46 = .ok (.getfield 41, 3) := by decide +kernel
theorem dX8_areNear_49 : decode cX8_areNear 49 = .ok (.iload_n 2, 1) := by decide +kernel
theorem dX8_areNear_50 : decode cX8_areNear 50 = .ok (.iaload, 1) := by decide +kernel
theorem dX8_areNear_51 : decode cX8_areNear 51 = .ok (.isub, 1) := by decide +kernel
theorem dX8_areNear_52 : decode cX8_areNear 52 = .ok (.iconst (-1), 1) := by decide +kernel
theorem dX8_areNear_53 : decode cX8_areNear 53 = .ok (.iconst 1, 1) := by decide +kernel
theorem dX8_areNear_54 : decode cX8_areNear 54 = .ok (.invokestatic 63, 3) := by decide +kernel
theorem dX8_areNear_57 : decode cX8_areNear 57 = .ok (.ifCond .eq 7, 3) := by decide +kernel
theorem dX8_areNear_60 : decode cX8_areNear 60 = .ok (.iconst 1, 1) := by decide +kernel
theorem dX8_areNear_61 : decode cX8_areNear 61 = .ok (.goto 4, 3) := by decide +kernel
theorem dX8_areNear_64 : decode cX8_areNear 64 = .ok (.iconst 0, 1) := by decide +kernel
theorem dX8_areNear_65 : decode cX8_areNear 65 = .ok (.ireturn, 1) := by decide +kernel
theorem dX8_laysSpots_0 : decode cX8_laysSpots 0 = .ok (.iconst 1, 1) := by decide +kernel
theorem dX8_laysSpots_1 : decode cX8_laysSpots 1 = .ok (.istore_n 1, 1) := by decide +kernel
theorem dX8_laysSpots_2 : decode cX8_laysSpots 2 = .ok (.iload_n 1, 1) := by decide +kernel
theorem dX8_laysSpots_3 : decode cX8_laysSpots 3 = .ok (.ifCond .eq 78, 3) := by decide +kernel
theorem dX8_laysSpots_6 : decode cX8_laysSpots 6 = .ok (.iconst 0, 1) := by decide +kernel
theorem dX8_laysSpots_7 : decode cX8_laysSpots 7 = .ok (.istore_n 1, 1) := by decide +kernel
theorem dX8_laysSpots_8 : decode cX8_laysSpots 8 = .ok (.iconst 0, 1) := by decide +kernel
theorem dX8_laysSpots_9 : decode cX8_laysSpots 9 = .ok (.istore_n 2, 1) := by decide +kernel
theorem dX8_laysSpots_10 : decode cX8_laysSpots 10 = .ok (.iload_n 2, 1) := by decide +kernel
theorem dX8_laysSpots_11 : decode cX8_laysSpots 11 = .ok (.aload_n 0, 1) := by decide +kernel
theorem dX8_laysSpots_12 : decode cX8_laysSpots 12 = .ok (.getfield 202, 3) := by decide +kernel
theorem dX8_laysSpots_15 : decode cX8_laysSpots 15 = .ok (.if_icmp .ge 63, 3) := by decide +kernel
theorem dX8_laysSpots_18 : decode cX8_laysSpots 18 = .ok (.iconst 0, 1) := by decide +kernel
theorem dX8_laysSpots_19 : decode cX8_laysSpots 19 = .ok (.istore_n 3, 1) := by decide +kernel
theorem dX8_laysSpots_20 : decode cX8_laysSpots 20 = .ok (.iload_n 3, 1) := by decide +kernel
theorem dX8_laysSpots_21 : decode cX8_laysSpots 21 = .ok (.aload_n 0, 1) := by decide +kernel
theorem dX8_laysSpots_22 : decode cX8_laysSpots 22 = .ok (.getfield 202, 3) := by decide +kernel
theorem dX8_laysSpots_25 : decode cX8_laysSpots 25 = .ok (.if_icmp .ge 47, 3) := by decide +kernel
theorem dX8_laysSpots_28 : decode cX8_laysSpots 28 = .ok (.aload_n 0, 1) := by decide +kernel
theorem dX8_laysSpots_29 : decode cX8_laysSpots 29 = .ok (.iload_n 2, 1) := by decide +kernel
theorem dX8_laysSpots_30 : decode cX8_laysSpots 30 = .ok (.iload_n 3, 1) := by decide +kernel
theorem dX8_laysSpots_31 : decode cX8_laysSpots 31 = .ok (.invokevirtual 205, 3) := by decide +kernel
theorem dX8_laysSpots_34 : decode cX8_laysSpots 34 = .ok (.ifCond .eq 32, 3) := by decide +kernel
theorem dX8_laysSpots_37 : decode cX8_laysSpots 37 = .ok (.aload_n 0, 1) := by decide +kernel
theorem dX8_laysSpots_38 : decode cX8_laysSpots 38 = .ok (.getfield 47, 3) := by decide +kernel
theorem dX8_laysSpots_41 : decode cX8_laysSpots 41 = .ok (.iload_n 3, 1) := by decide +kernel
theorem dX8_laysSpots_42 : decode cX8_laysSpots 42 = .ok (.iaload, 1) := by decide +kernel
theorem dX8_laysSpots_43 : decode cX8_laysSpots 43 = .ok (.aload_n 0, 1) := by decide +kernel
theorem dX8_laysSpots_44 : decode cX8_laysSpots 44 = .ok (.getfield 47, 3) := by decide +kernel
theorem dX8_laysSpots_47 : decode cX8_laysSpots 47 = .ok (.iload_n 2, 1) := by decide +kernel
theorem dX8_laysSpots_48 : decode cX8_laysSpots 48 = .ok (.iaload, 1) := by decide +kernel
theorem dX8_laysSpots_49 : decode cX8_laysSpots 49 = .ok (.if_icmp .ge 17, 3) := by decide +kernel
theorem dX8_laysSpots_52 : decode cX8_laysSpots 52 = .ok (.aload_n 0, 1) := by decide +kernel
theorem dX8_laysSpots_53 : decode cX8_laysSpots 53 = .ok (.getfield 47, 3) := by decide +kernel
theorem dX8_laysSpots_56 : decode cX8_laysSpots 56 = .ok (.iload_n 2, 1) := by decide +kernel
theorem dX8_laysSpots_57 : decode cX8_laysSpots 57 = .ok (.aload_n 0, 1) := by decide +kernel
theorem dX8_laysSpots_58 : decode cX8_laysSpots 58 = .ok (.getfield 47, 3) := by decide +kernel
theorem dX8_laysSpots_61 : decode cX8_laysSpots 61 = .ok (.iload_n 3, 1) := by decide +kernel
theorem dX8_laysSpots_62 : decode cX8_laysSpots 62 = .ok (.iaload, 1) := by decide +kernel
theorem dX8_laysSpots_63 : decode cX8_laysSpots 63 = .ok (.iastore, 1) := by decide +kernel
theorem dX8_laysSpots_64 : decode cX8_laysSpots 64 = .ok (.iconst 1, 1) := by decide +kernel
theorem dX8_laysSpots_65 : decode cX8_laysSpots 65 = .ok (.istore_n 1, 1) := by decide +kernel
theorem dX8_laysSpots_66 : decode cX8_laysSpots 66 = .ok (.iinc 3 1, 3) := by decide +kernel
theorem dX8_laysSpots_69 : decode cX8_laysSpots 69 = .ok (.goto (-49), 3) := by decide +kernel
theorem dX8_laysSpots_72 : decode cX8_laysSpots 72 = .ok (.iinc 2 1, 3) := by decide +kernel
theorem dX8_laysSpots_75 : decode cX8_laysSpots 75 = .ok (.goto (-65), 3) := by decide +kernel
theorem dX8_laysSpots_78 : decode cX8_laysSpots 78 = .ok (.goto (-76), 3) := by decide +kernel
theorem dX8_laysSpots_81 : decode cX8_laysSpots 81 = .ok (.aload_n 0, 1) := by decide +kernel
theorem dX8_laysSpots_82 : decode cX8_laysSpots 82 = .ok (.iconst 0, 1) := by decide +kernel
theorem dX8_laysSpots_83 : decode cX8_laysSpots 83 = .ok (.putfield 208, 3) := by decide +kernel
theorem dX8_laysSpots_86 : decode cX8_laysSpots 86 = .ok (.iconst 0, 1) := by decide +kernel
theorem dX8_laysSpots_87 : decode cX8_laysSpots 87 = .ok (.istore_n 2, 1) := by decide +kernel
theorem dX8_laysSpots_88 : decode cX8_laysSpots 88 = .ok (.iload_n 2, 1) := by decide +kernel
theorem dX8_laysSpots_89 : decode cX8_laysSpots 89 = .ok (.aload_n 0, 1) := by decide +kernel
theorem dX8_laysSpots_90 : decode cX8_laysSpots 90 = .ok (.getfield 202, 3) := by decide +kernel
theorem dX8_laysSpots_93 : decode cX8_laysSpots 93 = .ok (.if_icmp .ge 98, 3) := by decide +kernel
theorem dX8_laysSpots_96 : decode cX8_laysSpots 96 = .ok (.iconst 0, 1) := by decide +kernel
theorem dX8_laysSpots_97 : decode cX8_laysSpots 97 = .ok (.istore_n 3, 1) := by decide +kernel
theorem dX8_laysSpots_98 : decode cX8_laysSpots 98 = .ok (.iload_n 2, 1) := by decide +kernel
theorem dX8_laysSpots_99 : decode cX8_laysSpots 99 = .ok (.istore 4, 2) := by decide +kernel
theorem dX8_laysSpots_101 : decode cX8_laysSpots 101 = .ok (.iload 4, 2) := by decide +kernel
theorem dX8_laysSpots_103 : decode cX8_laysSpots 103 = .ok (.aload_n 0, 1) := by decide +kernel
theorem dX8_laysSpots_104 : decode cX8_laysSpots 104 = .ok (.getfield 202, 3) := by decide +kernel
theorem dX8_laysSpots_107 : decode cX8_laysSpots 107 = .ok (.if_icmp .ge 60, 3) := by decide +kernel
theorem dX8_laysSpots_110 : decode cX8_laysSpots 110 = .ok (.aload_n 0, 1) := by decide +kernel
theorem dX8_laysSpots_111 : decode cX8_laysSpots 111 = .ok (.getfield 47, 3) := by decide +kernel
theorem dX8_laysSpots_114 : decode cX8_laysSpots 114 = .ok (.iload 4, 2) := by decide +kernel
theorem dX8_laysSpots_116 : decode cX8_laysSpots 116 = .ok (.iaload, 1) := by decide +kernel
theorem dX8_laysSpots_117 : decode cX8_laysSpots 117 = .ok (.iload_n 2, 1) := by decide +kernel
theorem dX8_laysSpots_118 : decode cX8_laysSpots 118 = .ok (.if_icmp .ne 13, 3) := by decide +kernel
theorem dX8_laysSpots_121 : decode cX8_laysSpots 121 = .ok (.iload_n 3, 1) := by decide +kernel
theorem dX8_laysSpots_122 : decode cX8_laysSpots 122 = .ok (.ifCond .ne 9, 3) := by decide +kernel
theorem dX8_laysSpots_125 : decode cX8_laysSpots 125 = .ok (.iload 4, 2) := by decide +kernel
theorem dX8_laysSpots_127 : decode cX8_laysSpots 127 = .ok (.iload_n 2, 1) := by decide +kernel
theorem dX8_laysSpots_128 : decode cX8_laysSpots 128 = .ok (.if_icmp .eq 18, 3) := by decide +kernel
theorem dX8_laysSpots_131 : decode cX8_laysSpots 131 = .ok (.iload_n 3, 1) := by decide +kernel
theorem dX8_laysSpots_132 : decode cX8_laysSpots 132 = .ok (.ifCond .eq 29, 3) := by decide +kernel
theorem dX8_laysSpots_135 : decode cX8_laysSpots 135 = .ok (.aload_n 0, 1) := by decide +kernel
theorem dX8_laysSpots_136 : decode cX8_laysSpots 136 = .ok (.getfield 47, 3) := by decide +kernel
theorem dX8_laysSpots_139 : decode cX8_laysSpots 139 = .ok (.iload 4, 2) := by decide +kernel
theorem dX8_laysSpots_141 : decode cX8_laysSpots 141 = .ok (.iaload, 1) := by decide +kernel
theorem dX8_laysSpots_142 : decode cX8_laysSpots 142 = .ok (.iload_n 2, 1) := by decide +kernel
theorem dX8_laysSpots_143 : decode cX8_laysSpots 143 = .ok (.if_icmp .ne 18, 3) := by decide +kernel
theorem dX8_laysSpots_146 : decode cX8_laysSpots 146 = .ok (.iconst 1, 1) := by decide +kernel
theorem dX8_laysSpots_147 : decode cX8_laysSpots 147 = .ok (.istore_n 3, 1) := by decide +kernel
theorem dX8_laysSpots_148 : decode cX8_laysSpots 148 = .ok (.aload_n 0, 1) := by decide +kernel
theorem dX8_laysSpots_149 : decode cX8_laysSpots 149 = .ok (.getfield 47, 3) := by decide +kernel
theorem dX8_laysSpots_152 : decode cX8_laysSpots 152 = .ok (.iload 4, 2) := by decide +kernel
theorem dX8_laysSpots_154 : decode cX8_laysSpots 154 = .ok (.iconst (-1), 1) := by decide +kernel
theorem dX8_laysSpots_155 : decode cX8_laysSpots 155 = .ok (.aload_n 0, 1) := by decide +kernel
theorem dX8_laysSpots_156 : decode cX8_laysSpots 156 = .ok (.getfield 208, 3) := by decide +kernel
theorem dX8_laysSpots_159 : decode cX8_laysSpots 159 = .ok (.isub, 1) := by decide +kernel
theorem dX8_laysSpots_160 : decode cX8_laysSpots 160 = .ok (.iastore, 1) := by decide +kernel
theorem dX8_laysSpots_161 : decode cX8_laysSpots 161 = .ok (.iinc 4 1, 3) := by decide +kernel
theorem dX8_laysSpots_164 : decode cX8_laysSpots 164 = .ok (.goto (-63), 3) := by decide +kernel
theorem dX8_laysSpots_167 : decode cX8_laysSpots 167 = .ok (.aload_n 0, 1) := by decide +kernel
theorem dX8_laysSpots_168 : decode cX8_laysSpots 168 = .ok (.dup, 1) := by decide +kernel
theorem dX8_laysSpots_169 : decode cX8_laysSpots 169 = .ok (.getfield 208, 3) := by decide +kernel
theorem dX8_laysSpots_172 : decode cX8_laysSpots 172 = .ok (.iload_n 3, 1) := by decide +kernel
theorem dX8_laysSpots_173 : decode cX8_laysSpots 173 = .ok (.ifCond .eq 7, 3) := by decide +kernel
theorem dX8_laysSpots_176 : decode cX8_laysSpots 176 = .ok (.iconst 1, 1) := by decide +kernel
theorem dX8_laysSpots_177 : decode cX8_laysSpots 177 = .ok (.goto 4, 3) := by decide +kernel
theorem dX8_laysSpots_180 : decode cX8_laysSpots 180 = .ok (.iconst 0, 1) := by decide +kernel
theorem dX8_laysSpots_181 : decode cX8_laysSpots 181 = .ok (.iadd, 1) := by decide +kernel
theorem dX8_laysSpots_182 : decode cX8_laysSpots 182 = .ok (.putfield 208, 3) := by decide +kernel
theorem dX8_laysSpots_185 : decode cX8_laysSpots 185 = .ok (.iinc 2 1, 3) := by decide +kernel
theorem dX8_laysSpots_188 : decode cX8_laysSpots 188 = .ok (.goto (-100), 3) := by decide +kernel
theorem dX8_laysSpots_191 : decode cX8_laysSpots 191 = .ok (.iconst 0, 1) := by decide +kernel
theorem dX8_laysSpots_192 : decode cX8_laysSpots 192 = .ok (.istore_n 2, 1) := by decide +kernel
theorem dX8_laysSpots_193 : decode cX8_laysSpots 193 = .ok (.iload_n 2, 1) := by decide +kernel
theorem dX8_laysSpots_194 : decode cX8_laysSpots 194 = .ok (.aload_n 0, 1) := by decide +kernel
theorem dX8_laysSpots_195 : decode cX8_laysSpots 195 = .ok (.getfield 202, 3) := by decide +kernel
theorem dX8_laysSpots_198 : decode cX8_laysSpots 198 = .ok (.if_icmp .ge 23, 3) := by decide +kernel
theorem dX8_laysSpots_201 : decode cX8_laysSpots 201 = .ok (.aload_n 0, 1) := by decide +kernel
theorem dX8_laysSpots_202 : decode cX8_laysSpots 202 = .ok (.getfield 47, 3) := by decide +kernel
theorem dX8_laysSpots_205 : decode cX8_laysSpots 205 = .ok (.iload_n 2, 1) := by decide +kernel
theorem dX8_laysSpots_206 : decode cX8_laysSpots 206 = .ok (.iconst (-1), 1) := by decide +kernel
theorem dX8_laysSpots_207 : decode cX8_laysSpots 207 = .ok (.aload_n 0, 1) := by decide +kernel
theorem dX8_laysSpots_208 : decode cX8_laysSpots 208 = .ok (.getfield 47, 3) := by decide +kernel
theorem dX8_laysSpots_211 : decode cX8_laysSpots 211 = .ok (.iload_n 2, 1) := by decide +kernel
theorem dX8_laysSpots_212 : decode cX8_laysSpots 212 = .ok (.iaload, 1) := by decide +kernel
theorem dX8_laysSpots_213 : decode cX8_laysSpots 213 = .ok (.isub, 1) := by decide +kernel
theorem dX8_laysSpots_214 : decode cX8_laysSpots 214 = .ok (.iastore, 1) := by decide +kernel
theorem dX8_laysSpots_215 : decode cX8_laysSpots 215 = .ok (.iinc 2 1, 3) := by decide +kernel
theorem dX8_laysSpots_218 : decode cX8_laysSpots 218 = .ok (.goto (-25), 3) := by decide +kernel
theorem dX8_laysSpots_221 : decode cX8_laysSpots 221 = .ok (.return_, 1) := by decide +kernel
theorem dX8_meet_0 : decode cX8_meet 0 = .ok (.aload_n 0, 1) := by decide +kernel
theorem dX8_meet_1 : decode cX8_meet 1 = .ok (.invokevirtual 167, 3) := by decide +kernel
theorem dX8_meet_4 : decode cX8_meet 4 = .ok (.aload_n 0, 1) := by decide +kernel
theorem dX8_meet_5 : decode cX8_meet 5 = .ok (.iconst 0, 1) := by decide +kernel
theorem dX8_meet_6 : decode cX8_meet 6 = .ok (.putfield 202, 3) := by decide +kernel
theorem dX8_meet_9 : decode cX8_meet 9 = .ok (.aload_n 0, 1) := by decide +kernel
theorem dX8_meet_10 : decode cX8_meet 10 = .ok (.iconst 0, 1) := by decide +kernel
theorem dX8_meet_11 : decode cX8_meet 11 = .ok (.putfield 195, 3) := by decide +kernel
theorem dX8_meet_14 : decode cX8_meet 14 = .ok (.aload_n 0, 1) := by decide +kernel
theorem dX8_meet_15 : decode cX8_meet 15 = .ok (.iconst 1, 1) := by decide +kernel
theorem dX8_meet_16 : decode cX8_meet 16 = .ok (.iconst 1, 1) := by decide +kernel
theorem dX8_meet_17 : decode cX8_meet 17 = .ok (.invokevirtual 198, 3) := by decide +kernel
theorem dX8_meet_20 : decode cX8_meet 20 = .ok (.aload_n 0, 1) := by decide +kernel
theorem dX8_meet_21 : decode cX8_meet 21 = .ok (.getfield 195, 3) := by decide +kernel
theorem dX8_meet_24 : decode cX8_meet 24 = .ok (.ifCond .le 42, 3) := by decide +kernel
theorem dX8_meet_27 : decode cX8_meet 27 = .ok (.aload_n 0, 1) := by decide +kernel
theorem dX8_meet_28 : decode cX8_meet 28 = .ok (.dup, 1) := by decide +kernel
theorem dX8_meet_29 : decode cX8_meet 29 = .ok (.getfield 195, 3) := by decide +kernel
theorem dX8_meet_32 : decode cX8_meet 32 = .ok (.iconst 1, 1) := by decide +kernel
theorem dX8_meet_33 : decode cX8_meet 33 = .ok (.isub, 1) := by decide +kernel
theorem dX8_meet_34 : decode cX8_meet 34 = .ok (.putfield 195, 3) := by decide +kernel
theorem dX8_meet_37 : decode cX8_meet 37 = .ok (.aload_n 0, 1) := by decide +kernel
theorem dX8_meet_38 : decode cX8_meet 38 = .ok (.iload_n 1, 1) := by decide +kernel
theorem dX8_meet_39 : decode cX8_meet 39 = .ok (.aload_n 0, 1) := by decide +kernel
theorem dX8_meet_40 : decode cX8_meet 40 = .ok (.getfield 50, 3) := by decide +kernel
theorem dX8_meet_43 : decode cX8_meet 43 = .ok (.aload_n 0, 1) := by decide +kernel
theorem dX8_meet_44 : decode cX8_meet 44 = .ok (.getfield 195, 3) := by decide +kernel
theorem dX8_meet_47 : decode cX8_meet 47 = .ok (.iaload, 1) := by decide +kernel
theorem dX8_meet_48 : decode cX8_meet 48 = .ok (.iload_n 2, 1) := by decide +kernel
theorem dX8_meet_49 : decode cX8_meet 49 = .ok (.aload_n 0, 1) := by decide +kernel
theorem dX8_meet_50 : decode cX8_meet 50 = .ok (.getfield 53, 3) := by decide +kernel
theorem dX8_meet_53 : decode cX8_meet 53 = .ok (.aload_n 0, 1) := by decide +kernel
theorem dX8_meet_54 : decode cX8_meet 54 = .ok (.getfield 195, 3) := by decide +kernel
theorem dX8_meet_57 : decode cX8_meet 57 = .ok (.iaload, 1) := by decide +kernel
theorem dX8_meet_58 : decode cX8_meet 58 = .ok (.invokevirtual 211, 3) := by decide +kernel
theorem dX8_meet_61 : decode cX8_meet 61 = .ok (.ifCond .eq (-41), 3) := by decide +kernel
theorem dX8_meet_64 : decode cX8_meet 64 = .ok (.iconst 0, 1) := by decide +kernel
theorem dX8_meet_65 : decode cX8_meet 65 = .ok (.ireturn, 1) := by decide +kernel
theorem dX8_meet_66 : decode cX8_meet 66 = .ok (.aload_n 0, 1) := by decide +kernel
theorem dX8_meet_67 : decode cX8_meet 67 = .ok (.invokevirtual 214, 3) := by decide +kernel
theorem dX8_meet_70 : decode cX8_meet 70 = .ok (.iconst 1, 1) := by decide +kernel
theorem dX8_meet_71 : decode cX8_meet 71 = .ok (.ireturn, 1) := by decide +kernel
theorem dX8_meets_0 : decode cX8_meets 0 = .ok (.aload_n 0, 1) := by decide +kernel
theorem dX8_meets_1 : decode cX8_meets 1 = .ok (.iconst 0, 1) := by decide +kernel
theorem dX8_meets_2 : decode cX8_meets 2 = .ok (.putfield 60, 3) := by decide +kernel
theorem dX8_meets_5 : decode cX8_meets 5 = .ok (.aload_n 0, 1) := by decide +kernel
theorem dX8_meets_6 : decode cX8_meets 6 = .ok (.iload_n 1, 1) := by decide +kernel
theorem dX8_meets_7 : decode cX8_meets 7 = .ok (.iload_n 2, 1) := by decide +kernel
theorem dX8_meets_8 : decode cX8_meets 8 = .ok (.invokevirtual 170, 3) := by decide +kernel
theorem dX8_meets_11 : decode cX8_meets 11 = .ok (.ifCond .eq 12, 3) := by decide +kernel
theorem dX8_meets_14 : decode cX8_meets 14 = .ok (.iload_n 3, 1) := by decide +kernel
theorem dX8_meets_15 : decode cX8_meets 15 = .ok (.iconst 0, 1) := by decide +kernel
theorem dX8_meets_16 : decode cX8_meets 16 = .ok (.iconst 2, 1) := by decide +kernel
theorem dX8_meets_17 : decode cX8_meets 17 = .ok (.invokestatic 63, 3) := by decide +kernel
theorem dX8_meets_20 : decode cX8_meets 20 = .ok (.ifCond .ne 5, 3) := by decide +kernel
theorem dX8_meets_23 : decode cX8_meets 23 = .ok (.iconst (-1), 1) := by decide +kernel
theorem dX8_meets_24 : decode cX8_meets 24 = .ok (.ireturn, 1) := by decide +kernel
theorem dX8_meets_25 : decode cX8_meets 25 = .ok (.aload_n 0, 1) := by decide +kernel
theorem dX8_meets_26 : decode cX8_meets 26 = .ok (.iload_n 1, 1) := by decide +kernel
theorem dX8_meets_27 : decode cX8_meets 27 = .ok (.iload_n 2, 1) := by decide +kernel
theorem dX8_meets_28 : decode cX8_meets 28 = .ok (.invokevirtual 217, 3) := by decide +kernel
theorem dX8_meets_31 : decode cX8_meets 31 = .ok (.ifCond .ne 6, 3) := by decide +kernel
theorem dX8_meets_34 : decode cX8_meets 34 = .ok (.bipush (-4), 2) := by decide +kernel
theorem dX8_meets_36 : decode cX8_meets 36 = .ok (.ireturn, 1) := by decide +kernel
theorem dX8_meets_37 : decode cX8_meets 37 = .ok (.iconst 0, 1) := by decide +kernel
theorem dX8_meets_38 : decode cX8_meets 38 = .ok (.istore 4, 2) := by decide +kernel
theorem dX8_meets_40 : decode cX8_meets 40 = .ok (.iconst 0, 1) := by decide +kernel
theorem dX8_meets_41 : decode cX8_meets 41 = .ok (.istore 5, 2) := by decide +kernel
theorem dX8_meets_43 : decode cX8_meets 43 = .ok (.iload 5, 2) := by decide +kernel
theorem dX8_meets_45 : decode cX8_meets 45 = .ok (.aload_n 0, 1) := by decide +kernel
theorem dX8_meets_46 : decode cX8_meets 46 = .ok (.getfield 202, 3) := by decide +kernel
theorem dX8_meets_49 : decode cX8_meets 49 = .ok (.if_icmp .ge 29, 3) := by decide +kernel
theorem dX8_meets_52 : decode cX8_meets 52 = .ok (.iload 4, 2) := by decide +kernel
theorem dX8_meets_54 : decode cX8_meets 54 = .ok (.aload_n 0, 1) := by decide +kernel
theorem dX8_meets_55 : decode cX8_meets 55 = .ok (.getfield 44, 3) := by decide +kernel
theorem dX8_meets_58 : decode cX8_meets 58 = .ok (.iload 5, 2) := by decide +kernel
theorem dX8_meets_60 : decode cX8_meets 60 = .ok (.baload, 1) := by decide +kernel
theorem dX8_meets_61 : decode cX8_meets 61 = .ok (.ifCond .eq 7, 3) := by decide +kernel
theorem dX8_meets_64 : decode cX8_meets 64 = .ok (.iconst 1, 1) := by decide +kernel
theorem dX8_meets_65 : decode cX8_meets 65 = .ok (.goto 4, 3) := by decide +kernel
theorem dX8_meets_68 : decode cX8_meets 68 = .ok (.iconst 0, 1) := by decide +kernel
theorem dX8_meets_69 : decode cX8_meets 69 = .ok (.iadd, 1) := by decide +kernel
theorem dX8_meets_70 : decode cX8_meets 70 = .ok (.istore 4, 2) := by decide +kernel
theorem dX8_meets_72 : decode cX8_meets 72 = .ok (.iinc 5 1, 3) := by decide +kernel
theorem dX8_meets_75 : decode cX8_meets 75 = .ok (.goto (-32), 3) := by decide +kernel
theorem dX8_meets_78 : decode cX8_meets 78 = .ok (.iload_n 3, 1) := by decide +kernel
theorem dX8_meets_79 : decode cX8_meets 79 = .ok (.ifCond .ne 8, 3) := by decide +kernel
theorem dX8_meets_82 : decode cX8_meets 82 = .ok (.iload 4, 2) := by decide +kernel
theorem dX8_meets_84 : decode cX8_meets 84 = .ok (.goto 22, 3) := by decide +kernel
theorem dX8_meets_87 : decode cX8_meets 87 = .ok (.iload_n 3, 1) := by decide +kernel
theorem dX8_meets_88 : decode cX8_meets 88 = .ok (.iconst 1, 1) := by decide +kernel
theorem dX8_meets_89 : decode cX8_meets 89 = .ok (.if_icmp .ne 13, 3) := by decide +kernel
theorem dX8_meets_92 : decode cX8_meets 92 = .ok (.aload_n 0, 1) := by decide +kernel
theorem dX8_meets_93 : decode cX8_meets 93 = .ok (.getfield 202, 3) := by decide +kernel
theorem dX8_meets_96 : decode cX8_meets 96 = .ok (.iload 4, 2) := by decide +kernel
theorem dX8_meets_98 : decode cX8_meets 98 = .ok (.isub, 1) := by decide +kernel
theorem dX8_meets_99 : decode cX8_meets 99 = .ok (.goto 7, 3) := by decide +kernel
theorem dX8_meets_102 : decode cX8_meets 102 = .ok (.aload_n 0, 1) := by decide +kernel
theorem dX8_meets_103 : decode cX8_meets 103 = .ok (.getfield 208, 3) := by decide +kernel
theorem dX8_meets_106 : decode cX8_meets 106 = .ok (.ireturn, 1) := by decide +kernel
theorem dX8_meeting_0 : decode cX8_meeting 0 = .ok (.aload_n 0, 1) := by decide +kernel
theorem dX8_meeting_1 : decode cX8_meeting 1 = .ok (.iconst 0, 1) := by decide +kernel
theorem dX8_meeting_2 : decode cX8_meeting 2 = .ok (.putfield 60, 3) := by decide +kernel
theorem dX8_meeting_5 : decode cX8_meeting 5 = .ok (.aload_n 0, 1) := by decide +kernel
theorem dX8_meeting_6 : decode cX8_meeting 6 = .ok (.iload_n 1, 1) := by decide +kernel
theorem dX8_meeting_7 : decode cX8_meeting 7 = .ok (.iload_n 2, 1) := by decide +kernel
theorem dX8_meeting_8 : decode cX8_meeting 8 = .ok (.invokevirtual 170, 3) := by decide +kernel
theorem dX8_meeting_11 : decode cX8_meeting 11 = .ok (.ifCond .eq 17, 3) := by decide +kernel
theorem dX8_meeting_14 : decode cX8_meeting 14 = .ok (.iload_n 3, 1) := by decide +kernel
theorem dX8_meeting_15 : decode cX8_meeting 15 = .ok (.ifCond .lt 13, 3) := by decide +kernel
theorem dX8_meeting_18 : decode cX8_meeting 18 = .ok (.iload 4, 2) := by decide +kernel
theorem dX8_meeting_20 : decode cX8_meeting 20 = .ok (.iconst 0, 1) := by decide +kernel
theorem dX8_meeting_21 : decode cX8_meeting 21 = .ok (.iconst 2, 1) := by decide +kernel
theorem dX8_meeting_22 : decode cX8_meeting 22 = .ok (.invokestatic 63, 3) := by decide +kernel
theorem dX8_meeting_25 : decode cX8_meeting 25 = .ok (.ifCond .ne 5, 3) := by decide +kernel
theorem dX8_meeting_28 : decode cX8_meeting 28 = .ok (.iconst (-1), 1) := by decide +kernel
theorem dX8_meeting_29 : decode cX8_meeting 29 = .ok (.ireturn, 1) := by decide +kernel
theorem dX8_meeting_30 : decode cX8_meeting 30 = .ok (.aload_n 0, 1) := by decide +kernel
theorem dX8_meeting_31 : decode cX8_meeting 31 = .ok (.iload_n 1, 1) := by decide +kernel
theorem dX8_meeting_32 : decode cX8_meeting 32 = .ok (.iload_n 2, 1) := by decide +kernel
theorem dX8_meeting_33 : decode cX8_meeting 33 = .ok (.invokevirtual 217, 3) := by decide +kernel
theorem dX8_meeting_36 : decode cX8_meeting 36 = .ok (.ifCond .ne 6, 3) := by decide +kernel
theorem dX8_meeting_39 : decode cX8_meeting 39 = .ok (.bipush (-4), 2) := by decide +kernel
theorem dX8_meeting_41 : decode cX8_meeting 41 = .ok (.ireturn, 1) := by decide +kernel
theorem dX8_meeting_42 : decode cX8_meeting 42 = .ok (.iload_n 3, 1) := by decide +kernel
theorem dX8_meeting_43 : decode cX8_meeting 43 = .ok (.aload_n 0, 1) := by decide +kernel
theorem dX8_meeting_44 : decode cX8_meeting 44 = .ok (.getfield 202, 3) := by decide +kernel
theorem dX8_meeting_47 : decode cX8_meeting 47 = .ok (.if_icmp .lt 8, 3) := by decide +kernel
theorem dX8_meeting_50 : decode cX8_meeting 50 = .ok (.bipush (-9), 2) := by decide +kernel
theorem dX8_meeting_52 : decode cX8_meeting 52 = .ok (.goto 38, 3) := by decide +kernel
theorem dX8_meeting_55 : decode cX8_meeting 55 = .ok (.iload 4, 2) := by decide +kernel
theorem dX8_meeting_57 : decode cX8_meeting 57 = .ok (.ifCond .ne 12, 3) := by decide +kernel
theorem dX8_meeting_60 : decode cX8_meeting 60 = .ok (.aload_n 0, 1) := by decide +kernel
theorem dX8_meeting_61 : decode cX8_meeting 61 = .ok (.getfield 38, 3) := by decide +kernel
theorem dX8_meeting_64 : decode cX8_meeting 64 = .ok (.iload_n 3, 1) := by decide +kernel
theorem dX8_meeting_65 : decode cX8_meeting 65 = .ok (.iaload, 1) := by decide +kernel
theorem dX8_meeting_66 : decode cX8_meeting 66 = .ok (.goto 24, 3) := by decide +kernel
theorem dX8_meeting_69 : decode cX8_meeting 69 = .ok (.iload 4, 2) := by decide +kernel
theorem dX8_meeting_71 : decode cX8_meeting 71 = .ok (.iconst 1, 1) := by decide +kernel
theorem dX8_meeting_72 : decode cX8_meeting 72 = .ok (.if_icmp .ne 12, 3) := by decide +kernel
theorem dX8_meeting_75 : decode cX8_meeting 75 = .ok (.aload_n 0, 1) := by decide +kernel
theorem dX8_meeting_76 : decode cX8_meeting 76 = .ok (.getfield 41, 3) := by decide +kernel
theorem dX8_meeting_79 : decode cX8_meeting 79 = .ok (.iload_n 3, 1) := by decide +kernel
theorem dX8_meeting_80 : decode cX8_meeting 80 = .ok (.iaload, 1) := by decide +kernel
theorem dX8_meeting_81 : decode cX8_meeting 81 = .ok (.goto 9, 3) := by decide +kernel
theorem dX8_meeting_84 : decode cX8_meeting 84 = .ok (.aload_n 0, 1) := by decide +kernel
theorem dX8_meeting_85 : decode cX8_meeting 85 = .ok (.getfield 47, 3) := by decide +kernel
theorem dX8_meeting_88 : decode cX8_meeting 88 = .ok (.iload_n 3, 1) := by decide +kernel
theorem dX8_meeting_89 : decode cX8_meeting 89 = .ok (.iaload, 1) := by decide +kernel
theorem dX8_meeting_90 : decode cX8_meeting 90 = .ok (.ireturn, 1) := by decide +kernel
theorem dX8_kindOf_0 : decode cX8_kindOf 0 = .ok (.iconst 0, 1) := by decide +kernel
theorem dX8_kindOf_1 : decode cX8_kindOf 1 = .ok (.istore 4, 2) := by decide +kernel
theorem dX8_kindOf_3 : decode cX8_kindOf 3 = .ok (.iconst 0, 1) := by decide +kernel
theorem dX8_kindOf_4 : decode cX8_kindOf 4 = .ok (.istore 5, 2) := by decide +kernel
theorem dX8_kindOf_6 : decode cX8_kindOf 6 = .ok (.iconst 0, 1) := by decide +kernel
theorem dX8_kindOf_7 : decode cX8_kindOf 7 = .ok (.istore 6, 2) := by decide +kernel
theorem dX8_kindOf_9 : decode cX8_kindOf 9 = .ok (.iconst 0, 1) := by decide +kernel
theorem dX8_kindOf_10 : decode cX8_kindOf 10 = .ok (.istore 7, 2) := by decide +kernel
theorem dX8_kindOf_12 : decode cX8_kindOf 12 = .ok (.iconst 0, 1) := by decide +kernel
theorem dX8_kindOf_13 : decode cX8_kindOf 13 = .ok (.istore 8, 2) := by decide +kernel
theorem dX8_kindOf_15 : decode cX8_kindOf 15 = .ok (.iload 8, 2) := by decide +kernel
theorem dX8_kindOf_17 : decode cX8_kindOf 17 = .ok (.aload_n 0, 1) := by decide +kernel
theorem dX8_kindOf_18 : decode cX8_kindOf 18 = .ok (.getfield 202, 3) := by decide +kernel
theorem dX8_kindOf_21 : decode cX8_kindOf 21 = .ok (.if_icmp .ge 84, 3) := by decide +kernel
theorem dX8_kindOf_24 : decode cX8_kindOf 24 = .ok (.aload_n 0, 1) := by decide +kernel
theorem dX8_kindOf_25 : decode cX8_kindOf 25 = .ok (.getfield 47, 3) := by decide +kernel
theorem dX8_kindOf_28 : decode cX8_kindOf 28 = .ok (.iload 8, 2) := by decide +kernel
theorem dX8_kindOf_30 : decode cX8_kindOf 30 = .ok (.iaload, 1) := by decide +kernel
theorem dX8_kindOf_31 : decode cX8_kindOf 31 = .ok (.iload_n 3, 1) := by decide +kernel
theorem dX8_kindOf_32 : decode cX8_kindOf 32 = .ok (.if_icmp .ne 67, 3) := by decide +kernel
theorem dX8_kindOf_35 : decode cX8_kindOf 35 = .ok (.iinc 4 1, 3) := by decide +kernel
theorem dX8_kindOf_38 : decode cX8_kindOf 38 = .ok (.aload_n 0, 1) := by decide +kernel
theorem dX8_kindOf_39 : decode cX8_kindOf 39 = .ok (.getfield 44, 3) := by decide +kernel
theorem dX8_kindOf_42 : decode cX8_kindOf 42 = .ok (.iload 8, 2) := by decide +kernel
theorem dX8_kindOf_44 : decode cX8_kindOf 44 = .ok (.baload, 1) := by decide +kernel
theorem dX8_kindOf_45 : decode cX8_kindOf 45 = .ok (.istore 7, 2) := by decide +kernel
theorem dX8_kindOf_47 : decode cX8_kindOf 47 = .ok (.aload_n 0, 1) := by decide +kernel
theorem dX8_kindOf_48 : decode cX8_kindOf 48 = .ok (.iload_n 1, 1) := by decide +kernel
theorem dX8_kindOf_49 : decode cX8_kindOf 49 = .ok (.aload_n 0, 1) := by decide +kernel
theorem dX8_kindOf_50 : decode cX8_kindOf 50 = .ok (.getfield 38, 3) := by decide +kernel
theorem dX8_kindOf_53 : decode cX8_kindOf 53 = .ok (.iload 8, 2) := by decide +kernel
theorem dX8_kindOf_55 : decode cX8_kindOf 55 = .ok (.iaload, 1) := by decide +kernel
theorem dX8_kindOf_56 : decode cX8_kindOf 56 = .ok (.iload_n 2, 1) := by decide +kernel
theorem dX8_kindOf_57 : decode cX8_kindOf 57 = .ok (.aload_n 0, 1) := by decide +kernel
theorem dX8_kindOf_58 : decode cX8_kindOf 58 = .ok (.getfield 41, 3) := by decide +kernel
theorem dX8_kindOf_61 : decode cX8_kindOf 61 = .ok (.iload 8, 2) := by decide +kernel
theorem dX8_kindOf_63 : decode cX8_kindOf 63 = .ok (.iaload, 1) := by decide +kernel
theorem dX8_kindOf_64 : decode cX8_kindOf 64 = .ok (.invokevirtual 154, 3) := by decide +kernel
theorem dX8_kindOf_67 : decode cX8_kindOf 67 = .ok (.istore 9, 2) := by decide +kernel
theorem dX8_kindOf_69 : decode cX8_kindOf 69 = .ok (.iload 5, 2) := by decide +kernel
theorem dX8_kindOf_71 : decode cX8_kindOf 71 = .ok (.iload 9, 2) := by decide +kernel
theorem dX8_kindOf_73 : decode cX8_kindOf 73 = .ok (.ifCond .le 7, 3) := by decide +kernel
theorem dX8_kindOf_76 : decode cX8_kindOf 76 = .ok (.iconst 1, 1) := by decide +kernel
theorem dX8_kindOf_77 : decode cX8_kindOf 77 = .ok (.goto 4, 3) := by decide +kernel
theorem dX8_kindOf_80 : decode cX8_kindOf 80 = .ok (.iconst 0, 1) := by decide +kernel
theorem dX8_kindOf_81 : decode cX8_kindOf 81 = .ok (.iadd, 1) := by decide +kernel
theorem dX8_kindOf_82 : decode cX8_kindOf 82 = .ok (.istore 5, 2) := by decide +kernel
theorem dX8_kindOf_84 : decode cX8_kindOf 84 = .ok (.iload 6, 2) := by decide +kernel
theorem dX8_kindOf_86 : decode cX8_kindOf 86 = .ok (.iload 9, 2) := by decide +kernel
theorem dX8_kindOf_88 : decode cX8_kindOf 88 = .ok (.ifCond .ge 7, 3) := by decide +kernel
theorem dX8_kindOf_91 : decode cX8_kindOf 91 = .ok (.iconst 1, 1) := by decide +kernel
theorem dX8_kindOf_92 : decode cX8_kindOf 92 = .ok (.goto 4, 3) := by decide +kernel
theorem dX8_kindOf_95 : decode cX8_kindOf 95 = .ok (.iconst 0, 1) := by decide +kernel
theorem dX8_kindOf_96 : decode cX8_kindOf 96 = .ok (.iadd, 1) := by decide +kernel
theorem dX8_kindOf_97 : decode cX8_kindOf 97 = .ok (.istore 6, 2) := by decide +kernel
theorem dX8_kindOf_99 : decode cX8_kindOf 99 = .ok (.iinc 8 1, 3) := by decide +kernel
theorem dX8_kindOf_102 : decode cX8_kindOf 102 = .ok (.goto (-87), 3) := by decide +kernel
theorem dX8_kindOf_105 : decode cX8_kindOf 105 = .ok (.iload 7, 2) := by decide +kernel
theorem dX8_kindOf_107 : decode cX8_kindOf 107 = .ok (.ifCond .eq 7, 3) := by decide +kernel
theorem dX8_kindOf_110 : decode cX8_kindOf 110 = .ok (.iconst 0, 1) := by decide +kernel
theorem dX8_kindOf_111 : decode cX8_kindOf 111 = .ok (.goto 33, 3) := by decide +kernel
theorem dX8_kindOf_114 : decode cX8_kindOf 114 = .ok (.iload 5, 2) := by decide +kernel
theorem dX8_kindOf_116 : decode cX8_kindOf 116 = .ok (.iload 4, 2) := by decide +kernel
theorem dX8_kindOf_118 : decode cX8_kindOf 118 = .ok (.if_icmp .eq 10, 3) := by decide +kernel
theorem dX8_kindOf_121 : decode cX8_kindOf 121 = .ok (.iload 6, 2) := by decide +kernel
theorem dX8_kindOf_123 : decode cX8_kindOf 123 = .ok (.iload 4, 2) := by decide +kernel
theorem dX8_kindOf_125 : decode cX8_kindOf 125 = .ok (.if_icmp .ne 7, 3) := by decide +kernel
theorem dX8_kindOf_128 : decode cX8_kindOf 128 = .ok (.iconst 1, 1) := by decide +kernel
theorem dX8_kindOf_129 : decode cX8_kindOf 129 = .ok (.goto 15, 3) := by decide +kernel
theorem dX8_kindOf_132 : decode cX8_kindOf 132 = .ok (.iload 4, 2) := by decide +kernel
theorem dX8_kindOf_134 : decode cX8_kindOf 134 = .ok (.bipush 12, 2) := by decide +kernel
theorem dX8_kindOf_136 : decode cX8_kindOf 136 = .ok (.if_icmp .ge 7, 3) := by decide +kernel
theorem dX8_kindOf_139 : decode cX8_kindOf 139 = .ok (.iconst 2, 1) := by decide +kernel
theorem dX8_kindOf_140 : decode cX8_kindOf 140 = .ok (.goto 4, 3) := by decide +kernel
theorem dX8_kindOf_143 : decode cX8_kindOf 143 = .ok (.iconst 3, 1) := by decide +kernel
theorem dX8_kindOf_144 : decode cX8_kindOf 144 = .ok (.ireturn, 1) := by decide +kernel
theorem dX8_ofSpot_0 : decode cX8_ofSpot 0 = .ok (.iconst 0, 1) := by decide +kernel
theorem dX8_ofSpot_1 : decode cX8_ofSpot 1 = .ok (.istore_n 3, 1) := by decide +kernel
theorem dX8_ofSpot_2 : decode cX8_ofSpot 2 = .ok (.bipush 33, 2) := by decide +kernel
theorem dX8_ofSpot_4 : decode cX8_ofSpot 4 = .ok (.istore 4, 2) := by decide +kernel
theorem dX8_ofSpot_6 : decode cX8_ofSpot 6 = .ok (.iconst (-1), 1) := by decide +kernel
theorem dX8_ofSpot_7 : decode cX8_ofSpot 7 = .ok (.istore 5, 2) := by decide +kernel
theorem dX8_ofSpot_9 : decode cX8_ofSpot 9 = .ok (.iconst 0, 1) := by decide +kernel
theorem dX8_ofSpot_10 : decode cX8_ofSpot 10 = .ok (.istore 6, 2) := by decide +kernel
theorem dX8_ofSpot_12 : decode cX8_ofSpot 12 = .ok (.iload 6, 2) := by decide +kernel
theorem dX8_ofSpot_14 : decode cX8_ofSpot 14 = .ok (.aload_n 0, 1) := by decide +kernel
theorem dX8_ofSpot_15 : decode cX8_ofSpot 15 = .ok (.getfield 202, 3) := by decide +kernel
theorem dX8_ofSpot_18 : decode cX8_ofSpot 18 = .ok (.if_icmp .ge 91, 3) := by decide +kernel
theorem dX8_ofSpot_21 : decode cX8_ofSpot 21 = .ok (.aload_n 0, 1) := by decide +kernel
theorem dX8_ofSpot_22 : decode cX8_ofSpot 22 = .ok (.getfield 47, 3) := by decide +kernel
theorem dX8_ofSpot_25 : decode cX8_ofSpot 25 = .ok (.iload 6, 2) := by decide +kernel
theorem dX8_ofSpot_27 : decode cX8_ofSpot 27 = .ok (.iaload, 1) := by decide +kernel
theorem dX8_ofSpot_28 : decode cX8_ofSpot 28 = .ok (.iload_n 1, 1) := by decide +kernel
theorem dX8_ofSpot_29 : decode cX8_ofSpot 29 = .ok (.if_icmp .ne 74, 3) := by decide +kernel
theorem dX8_ofSpot_32 : decode cX8_ofSpot 32 = .ok (.iload_n 2, 1) := by decide +kernel
theorem dX8_ofSpot_33 : decode cX8_ofSpot 33 = .ok (.iconst 4, 1) := by decide +kernel
theorem dX8_ofSpot_34 : decode cX8_ofSpot 34 = .ok (.if_icmp .ge 13, 3) := by decide +kernel
theorem dX8_ofSpot_37 : decode cX8_ofSpot 37 = .ok (.aload_n 0, 1) := by decide +kernel
theorem dX8_ofSpot_38 : decode cX8_ofSpot 38 = .ok (.getfield 38, 3) := by decide +kernel
theorem dX8_ofSpot_41 : decode cX8_ofSpot 41 = .ok (.iload 6, 2) := by decide +kernel
theorem dX8_ofSpot_43 : decode cX8_ofSpot 43 = .ok (.iaload, 1) := by decide +kernel
theorem dX8_ofSpot_44 : decode cX8_ofSpot 44 = .ok (.goto 10, 3) := by decide +kernel
theorem dX8_ofSpot_47 : decode cX8_ofSpot 47 = .ok (.aload_n 0, 1) := by decide +kernel
theorem dX8_ofSpot_48 : decode cX8_ofSpot 48 = .ok (.getfield 41, 3) := by decide +kernel
theorem dX8_ofSpot_51 : decode cX8_ofSpot 51 = .ok (.iload 6, 2) := by decide +kernel
theorem dX8_ofSpot_53 : decode cX8_ofSpot 53 = .ok (.iaload, 1) := by decide +kernel
theorem dX8_ofSpot_54 : decode cX8_ofSpot 54 = .ok (.istore 7, 2) := by decide +kernel
theorem dX8_ofSpot_56 : decode cX8_ofSpot 56 = .ok (.iinc 3 1, 3) := by decide +kernel
theorem dX8_ofSpot_59 : decode cX8_ofSpot 59 = .ok (.iload 7, 2) := by decide +kernel
theorem dX8_ofSpot_61 : decode cX8_ofSpot 61 = .ok (.invokestatic 107, 3) := by decide +kernel
theorem dX8_ofSpot_64 : decode cX8_ofSpot 64 = .ok (.iload 4, 2) := by decide +kernel
theorem dX8_ofSpot_66 : decode cX8_ofSpot 66 = .ok (.if_icmp .ge 11, 3) := by decide +kernel
theorem dX8_ofSpot_69 : decode cX8_ofSpot 69 = .ok (.iload 7, 2) := by decide +kernel
theorem dX8_ofSpot_71 : decode cX8_ofSpot 71 = .ok (.invokestatic 107, 3) := by decide +kernel
theorem dX8_ofSpot_74 : decode cX8_ofSpot 74 = .ok (.goto 5, 3) := by decide +kernel
theorem dX8_ofSpot_77 : decode cX8_ofSpot 77 = .ok (.iload 4, 2) := by decide +kernel
theorem dX8_ofSpot_79 : decode cX8_ofSpot 79 = .ok (.istore 4, 2) := by decide +kernel
theorem dX8_ofSpot_81 : decode cX8_ofSpot 81 = .ok (.iload 7, 2) := by decide +kernel
theorem dX8_ofSpot_83 : decode cX8_ofSpot 83 = .ok (.invokestatic 110, 3) := by decide +kernel
theorem dX8_ofSpot_86 : decode cX8_ofSpot 86 = .ok (.iload 5, 2) := by decide +kernel
theorem dX8_ofSpot_88 : decode cX8_ofSpot 88 = .ok (.if_icmp .le 11, 3) := by decide +kernel
theorem dX8_ofSpot_91 : decode cX8_ofSpot 91 = .ok (.iload 7, 2) := by decide +kernel
theorem dX8_ofSpot_93 : decode cX8_ofSpot 93 = .ok (.invokestatic 110, 3) := by decide +kernel
theorem dX8_ofSpot_96 : decode cX8_ofSpot 96 = .ok (.goto 5, 3) := by decide +kernel
theorem dX8_ofSpot_99 : decode cX8_ofSpot 99 = .ok (.iload 5, 2) := by decide +kernel
theorem dX8_ofSpot_101 : decode cX8_ofSpot 101 = .ok (.istore 5, 2) := by decide +kernel
theorem dX8_ofSpot_103 : decode cX8_ofSpot 103 = .ok (.iinc 6 1, 3) := by decide +kernel
theorem dX8_ofSpot_106 : decode cX8_ofSpot 106 = .ok (.goto (-94), 3) := by decide +kernel
theorem dX8_ofSpot_109 : decode cX8_ofSpot 109 = .ok (.iload_n 2, 1) := by decide +kernel
theorem dX8_ofSpot_110 : decode cX8_ofSpot 110 = .ok (.iconst 1, 1) := by decide +kernel
theorem dX8_ofSpot_111 : decode cX8_ofSpot 111 = .ok (.if_icmp .ne 7, 3) := by decide +kernel
theorem dX8_ofSpot_114 : decode cX8_ofSpot 114 = .ok (.iload_n 3, 1) := by decide +kernel
theorem dX8_ofSpot_115 : decode cX8_ofSpot 115 = .ok (.goto 16, 3) := by decide +kernel
theorem dX8_ofSpot_118 : decode cX8_ofSpot 118 = .ok (.iload_n 2, 1) := by decide +kernel
theorem dX8_ofSpot_119 : decode cX8_ofSpot 119 = .ok (.iconst 2, 1) := by decide +kernel
theorem dX8_ofSpot_120 : decode cX8_ofSpot 120 = .ok (.irem, 1) := by decide +kernel
theorem dX8_ofSpot_121 : decode cX8_ofSpot 121 = .ok (.ifCond .ne 8, 3) := by decide +kernel
theorem dX8_ofSpot_124 : decode cX8_ofSpot 124 = .ok (.iload 4, 2) := by decide +kernel
theorem dX8_ofSpot_126 : decode cX8_ofSpot 126 = .ok (.goto 5, 3) := by decide +kernel
theorem dX8_ofSpot_129 : decode cX8_ofSpot 129 = .ok (.iload 5, 2) := by decide +kernel
theorem dX8_ofSpot_131 : decode cX8_ofSpot 131 = .ok (.ireturn, 1) := by decide +kernel
theorem dX8_spot_0 : decode cX8_spot 0 = .ok (.aload_n 0, 1) := by decide +kernel
theorem dX8_spot_1 : decode cX8_spot 1 = .ok (.iconst 0, 1) := by decide +kernel
theorem dX8_spot_2 : decode cX8_spot 2 = .ok (.putfield 60, 3) := by decide +kernel
theorem dX8_spot_5 : decode cX8_spot 5 = .ok (.aload_n 0, 1) := by decide +kernel
theorem dX8_spot_6 : decode cX8_spot 6 = .ok (.iload_n 1, 1) := by decide +kernel
theorem dX8_spot_7 : decode cX8_spot 7 = .ok (.iload_n 2, 1) := by decide +kernel
theorem dX8_spot_8 : decode cX8_spot 8 = .ok (.invokevirtual 170, 3) := by decide +kernel
theorem dX8_spot_11 : decode cX8_spot 11 = .ok (.ifCond .eq 17, 3) := by decide +kernel
theorem dX8_spot_14 : decode cX8_spot 14 = .ok (.iload_n 3, 1) := by decide +kernel
theorem dX8_spot_15 : decode cX8_spot 15 = .ok (.ifCond .lt 13, 3) := by decide +kernel
theorem dX8_spot_18 : decode cX8_spot 18 = .ok (.iload 4, 2) := by decide +kernel
theorem dX8_spot_20 : decode cX8_spot 20 = .ok (.iconst 0, 1) := by decide +kernel
theorem dX8_spot_21 : decode cX8_spot 21 = .ok (.iconst 5, 1) := by decide +kernel
theorem dX8_spot_22 : decode cX8_spot 22 = .ok (.invokestatic 63, 3) := by decide +kernel
theorem dX8_spot_25 : decode cX8_spot 25 = .ok (.ifCond .ne 5, 3) := by decide +kernel
theorem dX8_spot_28 : decode cX8_spot 28 = .ok (.iconst (-1), 1) := by decide +kernel
theorem dX8_spot_29 : decode cX8_spot 29 = .ok (.ireturn, 1) := by decide +kernel
theorem dX8_spot_30 : decode cX8_spot 30 = .ok (.aload_n 0, 1) := by decide +kernel
theorem dX8_spot_31 : decode cX8_spot 31 = .ok (.iload_n 1, 1) := by decide +kernel
theorem dX8_spot_32 : decode cX8_spot 32 = .ok (.iload_n 2, 1) := by decide +kernel
theorem dX8_spot_33 : decode cX8_spot 33 = .ok (.invokevirtual 217, 3) := by decide +kernel
theorem dX8_spot_36 : decode cX8_spot 36 = .ok (.ifCond .ne 6, 3) := by decide +kernel
theorem dX8_spot_39 : decode cX8_spot 39 = .ok (.bipush (-4), 2) := by decide +kernel
theorem dX8_spot_41 : decode cX8_spot 41 = .ok (.ireturn, 1) := by decide +kernel
theorem dX8_spot_42 : decode cX8_spot 42 = .ok (.iload_n 3, 1) := by decide +kernel
theorem dX8_spot_43 : decode cX8_spot 43 = .ok (.aload_n 0, 1) := by decide +kernel
theorem dX8_spot_44 : decode cX8_spot 44 = .ok (.getfield 208, 3) := by decide +kernel
theorem dX8_spot_47 : decode cX8_spot 47 = .ok (.if_icmp .lt 8, 3) := by decide +kernel
theorem dX8_spot_50 : decode cX8_spot 50 = .ok (.bipush (-9), 2) := by decide +kernel
theorem dX8_spot_52 : decode cX8_spot 52 = .ok (.goto 25, 3) := by decide +kernel
theorem dX8_spot_55 : decode cX8_spot 55 = .ok (.iload 4, 2) := by decide +kernel
theorem dX8_spot_57 : decode cX8_spot 57 = .ok (.ifCond .ne 13, 3) := by decide +kernel
theorem dX8_spot_60 : decode cX8_spot 60 = .ok (.aload_n 0, 1) := by decide +kernel
theorem dX8_spot_61 : decode cX8_spot 61 = .ok (.iload_n 1, 1) := by decide +kernel
theorem dX8_spot_62 : decode cX8_spot 62 = .ok (.iload_n 2, 1) := by decide +kernel
theorem dX8_spot_63 : decode cX8_spot 63 = .ok (.iload_n 3, 1) := by decide +kernel
theorem dX8_spot_64 : decode cX8_spot 64 = .ok (.invokevirtual 220, 3) := by decide +kernel
theorem dX8_spot_67 : decode cX8_spot 67 = .ok (.goto 10, 3) := by decide +kernel
theorem dX8_spot_70 : decode cX8_spot 70 = .ok (.aload_n 0, 1) := by decide +kernel
theorem dX8_spot_71 : decode cX8_spot 71 = .ok (.iload_n 3, 1) := by decide +kernel
theorem dX8_spot_72 : decode cX8_spot 72 = .ok (.iload 4, 2) := by decide +kernel
theorem dX8_spot_74 : decode cX8_spot 74 = .ok (.invokevirtual 223, 3) := by decide +kernel
theorem dX8_spot_77 : decode cX8_spot 77 = .ok (.ireturn, 1) := by decide +kernel
theorem dX8_spotsOf_0 : decode cX8_spotsOf 0 = .ok (.iload_n 1, 1) := by decide +kernel
theorem dX8_spotsOf_1 : decode cX8_spotsOf 1 = .ok (.iload_n 2, 1) := by decide +kernel
theorem dX8_spotsOf_2 : decode cX8_spotsOf 2 = .ok (.if_icmp .ne 5, 3) := by decide +kernel
theorem dX8_spotsOf_5 : decode cX8_spotsOf 5 = .ok (.iconst 0, 1) := by decide +kernel
theorem dX8_spotsOf_6 : decode cX8_spotsOf 6 = .ok (.ireturn, 1) := by decide +kernel
theorem dX8_spotsOf_7 : decode cX8_spotsOf 7 = .ok (.aload_n 0, 1) := by decide +kernel
theorem dX8_spotsOf_8 : decode cX8_spotsOf 8 = .ok (.iload_n 1, 1) := by decide +kernel
theorem dX8_spotsOf_9 : decode cX8_spotsOf 9 = .ok (.iload_n 2, 1) := by decide +kernel
theorem dX8_spotsOf_10 : decode cX8_spotsOf 10 = .ok (.invokevirtual 217, 3) := by decide +kernel
theorem dX8_spotsOf_13 : decode cX8_spotsOf 13 = .ok (.ifCond .eq 10, 3) := by decide +kernel
theorem dX8_spotsOf_16 : decode cX8_spotsOf 16 = .ok (.aload_n 0, 1) := by decide +kernel
theorem dX8_spotsOf_17 : decode cX8_spotsOf 17 = .ok (.getfield 208, 3) := by decide +kernel
theorem dX8_spotsOf_20 : decode cX8_spotsOf 20 = .ok (.goto 5, 3) := by decide +kernel
theorem dX8_spotsOf_23 : decode cX8_spotsOf 23 = .ok (.bipush 101, 2) := by decide +kernel
theorem dX8_spotsOf_25 : decode cX8_spotsOf 25 = .ok (.ireturn, 1) := by decide +kernel
theorem dX8_busiest_0 : decode cX8_busiest 0 = .ok (.aload_n 0, 1) := by decide +kernel
theorem dX8_busiest_1 : decode cX8_busiest 1 = .ok (.iconst 0, 1) := by decide +kernel
theorem dX8_busiest_2 : decode cX8_busiest 2 = .ok (.putfield 60, 3) := by decide +kernel
theorem dX8_busiest_5 : decode cX8_busiest 5 = .ok (.iload_n 1, 1) := by decide +kernel
theorem dX8_busiest_6 : decode cX8_busiest 6 = .ok (.iconst 0, 1) := by decide +kernel
theorem dX8_busiest_7 : decode cX8_busiest 7 = .ok (.iconst 2, 1) := by decide +kernel
theorem dX8_busiest_8 : decode cX8_busiest 8 = .ok (.invokestatic 63, 3) := by decide +kernel
theorem dX8_busiest_11 : decode cX8_busiest 11 = .ok (.ifCond .ne 5, 3) := by decide +kernel
theorem dX8_busiest_14 : decode cX8_busiest 14 = .ok (.iconst (-1), 1) := by decide +kernel
theorem dX8_busiest_15 : decode cX8_busiest 15 = .ok (.ireturn, 1) := by decide +kernel
theorem dX8_busiest_16 : decode cX8_busiest 16 = .ok (.iconst (-1), 1) := by decide +kernel
theorem dX8_busiest_17 : decode cX8_busiest 17 = .ok (.istore_n 2, 1) := by decide +kernel
theorem dX8_busiest_18 : decode cX8_busiest 18 = .ok (.bipush (-9), 2) := by decide +kernel
theorem dX8_busiest_20 : decode cX8_busiest 20 = .ok (.istore_n 3, 1) := by decide +kernel
theorem dX8_busiest_21 : decode cX8_busiest 21 = .ok (.iconst 0, 1) := by decide +kernel
theorem dX8_busiest_22 : decode cX8_busiest 22 = .ok (.istore 4, 2) := by decide +kernel
theorem dX8_busiest_24 : decode cX8_busiest 24 = .ok (.iload 4, 2) := by decide +kernel
theorem dX8_busiest_26 : decode cX8_busiest 26 = .ok (.aload_n 0, 1) := by decide +kernel
theorem dX8_busiest_27 : decode cX8_busiest 27 = .ok (.getfield 56, 3) := by decide +kernel
theorem dX8_busiest_30 : decode cX8_busiest 30 = .ok (.if_icmp .ge 85, 3) := by decide +kernel
theorem dX8_busiest_33 : decode cX8_busiest 33 = .ok (.iload 4, 2) := by decide +kernel
theorem dX8_busiest_35 : decode cX8_busiest 35 = .ok (.iconst 1, 1) := by decide +kernel
theorem dX8_busiest_36 : decode cX8_busiest 36 = .ok (.iadd, 1) := by decide +kernel
theorem dX8_busiest_37 : decode cX8_busiest 37 = .ok (.istore 5, 2) := by decide +kernel
theorem dX8_busiest_39 : decode cX8_busiest 39 = .ok (.iload 5, 2) := by decide +kernel
theorem dX8_busiest_41 : decode cX8_busiest 41 = .ok (.aload_n 0, 1) := by decide +kernel
theorem dX8_busiest_42 : decode cX8_busiest 42 = .ok (.getfield 56, 3) := by decide +kernel
theorem dX8_busiest_45 : decode cX8_busiest 45 = .ok (.if_icmp .ge 64, 3) := by decide +kernel
theorem dX8_busiest_48 : decode cX8_busiest 48 = .ok (.aload_n 0, 1) := by decide +kernel
theorem dX8_busiest_49 : decode cX8_busiest 49 = .ok (.iload 4, 2) := by decide +kernel
theorem dX8_busiest_51 : decode cX8_busiest 51 = .ok (.iload 5, 2) := by decide +kernel
theorem dX8_busiest_53 : decode cX8_busiest 53 = .ok (.invokevirtual 227, 3) := by decide +kernel
theorem dX8_busiest_56 : decode cX8_busiest 56 = .ok (.istore 6, 2) := by decide +kernel
theorem dX8_busiest_58 : decode cX8_busiest 58 = .ok (.iload 6, 2) := by decide +kernel
theorem dX8_busiest_60 : decode cX8_busiest 60 = .ok (.iload_n 2, 1) := by decide +kernel
theorem dX8_busiest_61 : decode cX8_busiest 61 = .ok (.if_icmp .le 27, 3) := by decide +kernel
theorem dX8_busiest_64 : decode cX8_busiest 64 = .ok (.iload_n 1, 1) := by decide +kernel
theorem dX8_busiest_65 : decode cX8_busiest 65 = .ok (.ifCond .ne 8, 3) := by decide +kernel
theorem dX8_busiest_68 : decode cX8_busiest 68 = .ok (.iload 4, 2) := by decide +kernel
theorem dX8_busiest_70 : decode cX8_busiest 70 = .ok (.goto 19, 3) := by decide +kernel
theorem dX8_busiest_73 : decode cX8_busiest 73 = .ok (.iload_n 1, 1) := by decide +kernel
theorem dX8_busiest_74 : decode cX8_busiest 74 = .ok (.iconst 1, 1) := by decide +kernel
theorem dX8_busiest_75 : decode cX8_busiest 75 = .ok (.if_icmp .ne 8, 3) := by decide +kernel
theorem dX8_busiest_78 : decode cX8_busiest 78 = .ok (.iload 5, 2) := by decide +kernel
theorem dX8_busiest_80 : decode cX8_busiest 80 = .ok (.goto 9, 3) := by decide +kernel
theorem dX8_busiest_83 : decode cX8_busiest 83 = .ok (.iload 6, 2) := by decide +kernel
theorem dX8_busiest_85 : decode cX8_busiest 85 = .ok (.goto 4, 3) := by decide +kernel
theorem dX8_busiest_88 : decode cX8_busiest 88 = .ok (.iload_n 3, 1) := by decide +kernel
theorem dX8_busiest_89 : decode cX8_busiest 89 = .ok (.istore_n 3, 1) := by decide +kernel
theorem dX8_busiest_90 : decode cX8_busiest 90 = .ok (.iload 6, 2) := by decide +kernel
theorem dX8_busiest_92 : decode cX8_busiest 92 = .ok (.iload_n 2, 1) := by decide +kernel
theorem dX8_busiest_93 : decode cX8_busiest 93 = .ok (.if_icmp .le 8, 3) := by decide +kernel
theorem dX8_busiest_96 : decode cX8_busiest 96 = .ok (.iload 6, 2) := by decide +kernel
theorem dX8_busiest_98 : decode cX8_busiest 98 = .ok (.goto 4, 3) := by decide +kernel
theorem dX8_busiest_101 : decode cX8_busiest 101 = .ok (.iload_n 2, 1) := by decide +kernel
theorem dX8_busiest_102 : decode cX8_busiest 102 = .ok (.istore_n 2, 1) := by decide +kernel
theorem dX8_busiest_103 : decode cX8_busiest 103 = .ok (.iinc 5 1, 3) := by decide +kernel
theorem dX8_busiest_106 : decode cX8_busiest 106 = .ok (.goto (-67), 3) := by decide +kernel
theorem dX8_busiest_109 : decode cX8_busiest 109 = .ok (.iinc 4 1, 3) := by decide +kernel
theorem dX8_busiest_112 : decode cX8_busiest 112 = .ok (.goto (-88), 3) := by decide +kernel
theorem dX8_busiest_115 : decode cX8_busiest 115 = .ok (.iload_n 3, 1) := by decide +kernel
theorem dX8_busiest_116 : decode cX8_busiest 116 = .ok (.ireturn, 1) := by decide +kernel
theorem dX8_notes_0 : decode cX8_notes 0 = .ok (.aload_n 0, 1) := by decide +kernel
theorem dX8_notes_1 : decode cX8_notes 1 = .ok (.getfield 97, 3) := by decide +kernel
theorem dX8_notes_4 : decode cX8_notes 4 = .ok (.bipush 10, 2) := by decide +kernel
theorem dX8_notes_6 : decode cX8_notes 6 = .ok (.if_icmp .ne 43, 3) := by decide +kernel
theorem dX8_notes_9 : decode cX8_notes 9 = .ok (.iconst 0, 1) := by decide +kernel
theorem dX8_notes_10 : decode cX8_notes 10 = .ok (.istore_n 1, 1) := by decide +kernel
theorem dX8_notes_11 : decode cX8_notes 11 = .ok (.iload_n 1, 1) := by decide +kernel
theorem dX8_notes_12 : decode cX8_notes 12 = .ok (.sipush 288, 3) := by decide +kernel
theorem dX8_notes_15 : decode cX8_notes 15 = .ok (.if_icmp .ge 24, 3) := by decide +kernel
theorem dX8_notes_18 : decode cX8_notes 18 = .ok (.aload_n 0, 1) := by decide +kernel
theorem dX8_notes_19 : decode cX8_notes 19 = .ok (.getfield 13, 3) := by decide +kernel
theorem dX8_notes_22 : decode cX8_notes 22 = .ok (.iload_n 1, 1) := by decide +kernel
theorem dX8_notes_23 : decode cX8_notes 23 = .ok (.aload_n 0, 1) := by decide +kernel
theorem dX8_notes_24 : decode cX8_notes 24 = .ok (.getfield 13, 3) := by decide +kernel
theorem dX8_notes_27 : decode cX8_notes 27 = .ok (.iload_n 1, 1) := by decide +kernel
theorem dX8_notes_28 : decode cX8_notes 28 = .ok (.bipush 32, 2) := by decide +kernel
theorem dX8_notes_30 : decode cX8_notes 30 = .ok (.iadd, 1) := by decide +kernel
theorem dX8_notes_31 : decode cX8_notes 31 = .ok (.iaload, 1) := by decide +kernel
theorem dX8_notes_32 : decode cX8_notes 32 = .ok (.iastore, 1) := by decide +kernel
theorem dX8_notes_33 : decode cX8_notes 33 = .ok (.iinc 1 1, 3) := by decide +kernel
theorem dX8_notes_36 : decode cX8_notes 36 = .ok (.goto (-25), 3) := by decide +kernel
theorem dX8_notes_39 : decode cX8_notes 39 = .ok (.aload_n 0, 1) := by decide +kernel
theorem dX8_notes_40 : decode cX8_notes 40 = .ok (.dup, 1) := by decide +kernel
theorem dX8_notes_41 : decode cX8_notes 41 = .ok (.getfield 97, 3) := by decide +kernel
theorem dX8_notes_44 : decode cX8_notes 44 = .ok (.iconst 1, 1) := by decide +kernel
theorem dX8_notes_45 : decode cX8_notes 45 = .ok (.isub, 1) := by decide +kernel
theorem dX8_notes_46 : decode cX8_notes 46 = .ok (.putfield 97, 3) := by decide +kernel
theorem dX8_notes_49 : decode cX8_notes 49 = .ok (.iconst 0, 1) := by decide +kernel
theorem dX8_notes_50 : decode cX8_notes 50 = .ok (.istore_n 1, 1) := by decide +kernel
theorem dX8_notes_51 : decode cX8_notes 51 = .ok (.iload_n 1, 1) := by decide +kernel
theorem dX8_notes_52 : decode cX8_notes 52 = .ok (.bipush 32, 2) := by decide +kernel
theorem dX8_notes_54 : decode cX8_notes 54 = .ok (.if_icmp .ge 29, 3) := by decide +kernel
theorem dX8_notes_57 : decode cX8_notes 57 = .ok (.aload_n 0, 1) := by decide +kernel
theorem dX8_notes_58 : decode cX8_notes 58 = .ok (.getfield 13, 3) := by decide +kernel
theorem dX8_notes_61 : decode cX8_notes 61 = .ok (.bipush 32, 2) := by decide +kernel
theorem dX8_notes_63 : decode cX8_notes 63 = .ok (.aload_n 0, 1) := by decide +kernel
theorem dX8_notes_64 : decode cX8_notes 64 = .ok (.getfield 97, 3) := by decide +kernel
theorem dX8_notes_67 : decode cX8_notes 67 = .ok (.imul, 1) := by decide +kernel
theorem dX8_notes_68 : decode cX8_notes 68 = .ok (.iload_n 1, 1) := by decide +kernel
theorem dX8_notes_69 : decode cX8_notes 69 = .ok (.iadd, 1) := by decide +kernel
theorem dX8_notes_70 : decode cX8_notes 70 = .ok (.aload_n 0, 1) := by decide +kernel
theorem dX8_notes_71 : decode cX8_notes 71 = .ok (.getfield 7, 3) := by decide +kernel
theorem dX8_notes_74 : decode cX8_notes 74 = .ok (.iload_n 1, 1) := by decide +kernel
theorem dX8_notes_75 : decode cX8_notes 75 = .ok (.iaload, 1) := by decide +kernel
theorem dX8_notes_76 : decode cX8_notes 76 = .ok (.iastore, 1) := by decide +kernel
theorem dX8_notes_77 : decode cX8_notes 77 = .ok (.iinc 1 1, 3) := by decide +kernel
theorem dX8_notes_80 : decode cX8_notes 80 = .ok (.goto (-29), 3) := by decide +kernel
theorem dX8_notes_83 : decode cX8_notes 83 = .ok (.aload_n 0, 1) := by decide +kernel
theorem dX8_notes_84 : decode cX8_notes 84 = .ok (.dup, 1) := by decide +kernel
theorem dX8_notes_85 : decode cX8_notes 85 = .ok (.getfield 97, 3) := by decide +kernel
theorem dX8_notes_88 : decode cX8_notes 88 = .ok (.iconst 1, 1) := by decide +kernel
theorem dX8_notes_89 : decode cX8_notes 89 = .ok (.iadd, 1) := by decide +kernel
theorem dX8_notes_90 : decode cX8_notes 90 = .ok (.putfield 97, 3) := by decide +kernel
theorem dX8_notes_93 : decode cX8_notes 93 = .ok (.aload_n 0, 1) := by decide +kernel
theorem dX8_notes_94 : decode cX8_notes 94 = .ok (.iconst 0, 1) := by decide +kernel
theorem dX8_notes_95 : decode cX8_notes 95 = .ok (.putfield 93, 3) := by decide +kernel
theorem dX8_notes_98 : decode cX8_notes 98 = .ok (.return_, 1) := by decide +kernel
theorem dX8_moves_0 : decode cX8_moves 0 = .ok (.aload_n 0, 1) := by decide +kernel
theorem dX8_moves_1 : decode cX8_moves 1 = .ok (.iconst 0, 1) := by decide +kernel
theorem dX8_moves_2 : decode cX8_moves 2 = .ok (.putfield 60, 3) := by decide +kernel
theorem dX8_moves_5 : decode cX8_moves 5 = .ok (.aload_n 0, 1) := by decide +kernel
theorem dX8_moves_6 : decode cX8_moves 6 = .ok (.iload_n 1, 1) := by decide +kernel
theorem dX8_moves_7 : decode cX8_moves 7 = .ok (.invokevirtual 160, 3) := by decide +kernel
theorem dX8_moves_10 : decode cX8_moves 10 = .ok (.ifCond .eq 35, 3) := by decide +kernel
theorem dX8_moves_13 : decode cX8_moves 13 = .ok (.iload_n 2, 1) := by decide +kernel
theorem dX8_moves_14 : decode cX8_moves 14 = .ok (.iconst 0, 1) := by decide +kernel
theorem dX8_moves_15 : decode cX8_moves 15 = .ok (.iconst 3, 1) := by decide +kernel
theorem dX8_moves_16 : decode cX8_moves 16 = .ok (.invokestatic 63, 3) := by decide +kernel
theorem dX8_moves_19 : decode cX8_moves 19 = .ok (.ifCond .eq 26, 3) := by decide +kernel
theorem dX8_moves_22 : decode cX8_moves 22 = .ok (.iload_n 3, 1) := by decide +kernel
theorem dX8_moves_23 : decode cX8_moves 23 = .ok (.bipush (-9), 2) := by decide +kernel
theorem dX8_moves_25 : decode cX8_moves 25 = .ok (.bipush 9, 2) := by decide +kernel
theorem dX8_moves_27 : decode cX8_moves 27 = .ok (.invokestatic 63, 3) := by decide +kernel
theorem dX8_moves_30 : decode cX8_moves 30 = .ok (.ifCond .eq 15, 3) := by decide +kernel
theorem dX8_moves_33 : decode cX8_moves 33 = .ok (.iload 4, 2) := by decide +kernel
theorem dX8_moves_35 : decode cX8_moves 35 = .ok (.bipush (-9), 2) := by decide +kernel
theorem dX8_moves_37 : decode cX8_moves 37 = .ok (.bipush 9, 2) := by decide +kernel
theorem dX8_moves_39 : decode cX8_moves 39 = .ok (.invokestatic 63, 3) := by decide +kernel
theorem dX8_moves_42 : decode cX8_moves 42 = .ok (.ifCond .ne 5, 3) := by decide +kernel
theorem dX8_moves_45 : decode cX8_moves 45 = .ok (.iconst (-1), 1) := by decide +kernel
theorem dX8_moves_46 : decode cX8_moves 46 = .ok (.ireturn, 1) := by decide +kernel
theorem dX8_moves_47 : decode cX8_moves 47 = .ok (.bipush 8, 2) := by decide +kernel
theorem dX8_moves_49 : decode cX8_moves 49 = .ok (.iload_n 1, 1) := by decide +kernel
theorem dX8_moves_50 : decode cX8_moves 50 = .ok (.imul, 1) := by decide +kernel
theorem dX8_moves_51 : decode cX8_moves 51 = .ok (.iconst 2, 1) := by decide +kernel
theorem dX8_moves_52 : decode cX8_moves 52 = .ok (.iload_n 2, 1) := by decide +kernel
theorem dX8_moves_53 : decode cX8_moves 53 = .ok (.imul, 1) := by decide +kernel
theorem dX8_moves_54 : decode cX8_moves 54 = .ok (.iadd, 1) := by decide +kernel
theorem dX8_moves_55 : decode cX8_moves 55 = .ok (.istore 5, 2) := by decide +kernel
theorem dX8_moves_57 : decode cX8_moves 57 = .ok (.aload_n 0, 1) := by decide +kernel
theorem dX8_moves_58 : decode cX8_moves 58 = .ok (.getfield 7, 3) := by decide +kernel
theorem dX8_moves_61 : decode cX8_moves 61 = .ok (.iload 5, 2) := by decide +kernel
theorem dX8_moves_63 : decode cX8_moves 63 = .ok (.iaload, 1) := by decide +kernel
theorem dX8_moves_64 : decode cX8_moves 64 = .ok (.iload_n 3, 1) := by decide +kernel
theorem dX8_moves_65 : decode cX8_moves 65 = .ok (.if_icmp .ne 20, 3) := by decide +kernel
theorem dX8_moves_68 : decode cX8_moves 68 = .ok (.aload_n 0, 1) := by decide +kernel
theorem dX8_moves_69 : decode cX8_moves 69 = .ok (.getfield 7, 3) := by decide +kernel
theorem dX8_moves_72 : decode cX8_moves 72 = .ok (.iload 5, 2) := by decide +kernel
theorem dX8_moves_74 : decode cX8_moves 74 = .ok (.iconst 1, 1) := by decide +kernel
theorem dX8_moves_75 : decode cX8_moves 75 = .ok (.iadd, 1) := by decide +kernel
theorem dX8_moves_76 : decode cX8_moves 76 = .ok (.iaload, 1) := by decide +kernel
theorem dX8_moves_77 : decode cX8_moves 77 = .ok (.iload 4, 2) := by decide +kernel
theorem dX8_moves_79 : decode cX8_moves 79 = .ok (.if_icmp .ne 6, 3) := by decide +kernel
theorem dX8_moves_82 : decode cX8_moves 82 = .ok (.bipush (-2), 2) := by decide +kernel
theorem dX8_moves_84 : decode cX8_moves 84 = .ok (.ireturn, 1) := by decide +kernel
theorem dX8_moves_85 : decode cX8_moves 85 = .ok (.aload_n 0, 1) := by decide +kernel
theorem dX8_moves_86 : decode cX8_moves 86 = .ok (.invokevirtual 230, 3) := by decide +kernel
theorem dX8_moves_89 : decode cX8_moves 89 = .ok (.aload_n 0, 1) := by decide +kernel
theorem dX8_moves_90 : decode cX8_moves 90 = .ok (.getfield 7, 3) := by decide +kernel
theorem dX8_moves_93 : decode cX8_moves 93 = .ok (.iload 5, 2) := by decide +kernel
theorem dX8_moves_95 : decode cX8_moves 95 = .ok (.iload_n 3, 1) := by decide +kernel
theorem dX8_moves_96 : decode cX8_moves 96 = .ok (.iastore, 1) := by decide +kernel
theorem dX8_moves_97 : decode cX8_moves 97 = .ok (.aload_n 0, 1) := by decide +kernel
theorem dX8_moves_98 : decode cX8_moves 98 = .ok (.getfield 7, 3) := by decide +kernel
theorem dX8_moves_101 : decode cX8_moves 101 = .ok (.iload 5, 2) := by decide +kernel
theorem dX8_moves_103 : decode cX8_moves 103 = .ok (.iconst 1, 1) := by decide +kernel
theorem dX8_moves_104 : decode cX8_moves 104 = .ok (.iadd, 1) := by decide +kernel
theorem dX8_moves_105 : decode cX8_moves 105 = .ok (.iload 4, 2) := by decide +kernel
theorem dX8_moves_107 : decode cX8_moves 107 = .ok (.iastore, 1) := by decide +kernel
theorem dX8_moves_108 : decode cX8_moves 108 = .ok (.iconst 1, 1) := by decide +kernel
theorem dX8_moves_109 : decode cX8_moves 109 = .ok (.ireturn, 1) := by decide +kernel
theorem dX8_shifts_0 : decode cX8_shifts 0 = .ok (.aload_n 0, 1) := by decide +kernel
theorem dX8_shifts_1 : decode cX8_shifts 1 = .ok (.iconst 0, 1) := by decide +kernel
theorem dX8_shifts_2 : decode cX8_shifts 2 = .ok (.putfield 60, 3) := by decide +kernel
theorem dX8_shifts_5 : decode cX8_shifts 5 = .ok (.aload_n 0, 1) := by decide +kernel
theorem dX8_shifts_6 : decode cX8_shifts 6 = .ok (.iload_n 1, 1) := by decide +kernel
theorem dX8_shifts_7 : decode cX8_shifts 7 = .ok (.invokevirtual 160, 3) := by decide +kernel
theorem dX8_shifts_10 : decode cX8_shifts 10 = .ok (.ifCond .eq 25, 3) := by decide +kernel
theorem dX8_shifts_13 : decode cX8_shifts 13 = .ok (.iload_n 2, 1) := by decide +kernel
theorem dX8_shifts_14 : decode cX8_shifts 14 = .ok (.bipush (-18), 2) := by decide +kernel
theorem dX8_shifts_16 : decode cX8_shifts 16 = .ok (.bipush 18, 2) := by decide +kernel
theorem dX8_shifts_18 : decode cX8_shifts 18 = .ok (.invokestatic 63, 3) := by decide +kernel
theorem dX8_shifts_21 : decode cX8_shifts 21 = .ok (.ifCond .eq 14, 3) := by decide +kernel
theorem dX8_shifts_24 : decode cX8_shifts 24 = .ok (.iload_n 3, 1) := by decide +kernel
theorem dX8_shifts_25 : decode cX8_shifts 25 = .ok (.bipush (-18), 2) := by decide +kernel
theorem dX8_shifts_27 : decode cX8_shifts 27 = .ok (.bipush 18, 2) := by decide +kernel
theorem dX8_shifts_29 : decode cX8_shifts 29 = .ok (.invokestatic 63, 3) := by decide +kernel
theorem dX8_shifts_32 : decode cX8_shifts 32 = .ok (.ifCond .ne 5, 3) := by decide +kernel
theorem dX8_shifts_35 : decode cX8_shifts 35 = .ok (.iconst (-1), 1) := by decide +kernel
theorem dX8_shifts_36 : decode cX8_shifts 36 = .ok (.ireturn, 1) := by decide +kernel
theorem dX8_shifts_37 : decode cX8_shifts 37 = .ok (.iconst 0, 1) := by decide +kernel
theorem dX8_shifts_38 : decode cX8_shifts 38 = .ok (.istore 4, 2) := by decide +kernel
theorem dX8_shifts_40 : decode cX8_shifts 40 = .ok (.iload 4, 2) := by decide +kernel
theorem dX8_shifts_42 : decode cX8_shifts 42 = .ok (.iconst 4, 1) := by decide +kernel
theorem dX8_shifts_43 : decode cX8_shifts 43 = .ok (.if_icmp .ge 65, 3) := by decide +kernel
theorem dX8_shifts_46 : decode cX8_shifts 46 = .ok (.aload_n 0, 1) := by decide +kernel
theorem dX8_shifts_47 : decode cX8_shifts 47 = .ok (.getfield 7, 3) := by decide +kernel
theorem dX8_shifts_50 : decode cX8_shifts 50 = .ok (.bipush 8, 2) := by decide +kernel
theorem dX8_shifts_52 : decode cX8_shifts 52 = .ok (.iload_n 1, 1) := by decide +kernel
theorem dX8_shifts_53 : decode cX8_shifts 53 = .ok (.imul, 1) := by decide +kernel
theorem dX8_shifts_54 : decode cX8_shifts 54 = .ok (.iconst 2, 1) := by decide +kernel
theorem dX8_shifts_55 : decode cX8_shifts 55 = .ok (.iload 4, 2) := by decide +kernel
theorem dX8_shifts_57 : decode cX8_shifts 57 = .ok (.imul, 1) := by decide +kernel
theorem dX8_shifts_58 : decode cX8_shifts 58 = .ok (.iadd, 1) := by decide +kernel
theorem dX8_shifts_59 : decode cX8_shifts 59 = .ok (.iaload, 1) := by decide +kernel
theorem dX8_shifts_60 : decode cX8_shifts 60 = .ok (.iload_n 2, 1) := by decide +kernel
theorem dX8_shifts_61 : decode cX8_shifts 61 = .ok (.iadd, 1) := by decide +kernel
theorem dX8_shifts_62 : decode cX8_shifts 62 = .ok (.bipush (-9), 2) := by decide +kernel
theorem dX8_shifts_64 : decode cX8_shifts 64 = .ok (.bipush 9, 2) := by decide +kernel
theorem dX8_shifts_66 : decode cX8_shifts 66 = .ok (.invokestatic 63, 3) := by decide +kernel
theorem dX8_shifts_69 : decode cX8_shifts 69 = .ok (.ifCond .eq 31, 3) := by decide +kernel
theorem dX8_shifts_72 : decode cX8_shifts 72 = .ok (.aload_n 0, 1) := by decide +kernel
theorem dX8_shifts_73 : decode cX8_shifts 73 = .ok (.getfield 7, 3) := by decide +kernel
theorem dX8_shifts_76 : decode cX8_shifts 76 = .ok (.bipush 8, 2) := by decide +kernel
theorem dX8_shifts_78 : decode cX8_shifts 78 = .ok (.iload_n 1, 1) := by decide +kernel
theorem dX8_shifts_79 : decode cX8_shifts 79 = .ok (.imul, 1) := by decide +kernel
theorem dX8_shifts_80 : decode cX8_shifts 80 = .ok (.iconst 2, 1) := by decide +kernel
theorem dX8_shifts_81 : decode cX8_shifts 81 = .ok (.iload 4, 2) := by decide +kernel
theorem dX8_shifts_83 : decode cX8_shifts 83 = .ok (.imul, 1) := by decide +kernel
theorem dX8_shifts_84 : decode cX8_shifts 84 = .ok (.iadd, 1) := by decide +kernel
theorem dX8_shifts_85 : decode cX8_shifts 85 = .ok (.iconst 1, 1) := by decide +kernel
theorem dX8_shifts_86 : decode cX8_shifts 86 = .ok (.iadd, 1) := by decide +kernel
theorem dX8_shifts_87 : decode cX8_shifts 87 = .ok (.iaload, 1) := by decide +kernel
theorem dX8_shifts_88 : decode cX8_shifts 88 = .ok (.iload_n 3, 1) := by decide +kernel
theorem dX8_shifts_89 : decode cX8_shifts 89 = .ok (.iadd, 1) := by decide +kernel
theorem dX8_shifts_90 : decode cX8_shifts 90 = .ok (.bipush (-9), 2) := by decide +kernel
theorem dX8_shifts_92 : decode cX8_shifts 92 = .ok (.bipush 9, 2) := by decide +kernel
theorem dX8_shifts_94 : decode cX8_shifts 94 = .ok (.invokestatic 63, 3) := by decide +kernel
theorem dX8_shifts_97 : decode cX8_shifts 97 = .ok (.ifCond .ne 5, 3) := by decide +kernel
theorem dX8_shifts_100 : decode cX8_shifts 100 = .ok (.iconst (-1), 1) := by decide +kernel
theorem dX8_shifts_101 : decode cX8_shifts 101 = .ok (.ireturn, 1) := by decide +kernel
theorem dX8_shifts_102 : decode cX8_shifts 102 = .ok (.iinc 4 1, 3) := by decide +kernel
theorem dX8_shifts_105 : decode cX8_shifts 105 = .ok (.goto (-65), 3) := by decide +kernel
theorem dX8_shifts_108 : decode cX8_shifts 108 = .ok (.iload_n 2, 1) := by decide +kernel
theorem dX8_shifts_109 : decode cX8_shifts 109 = .ok (.ifCond .ne 10, 3) := by decide +kernel
theorem dX8_shifts_112 : decode cX8_shifts 112 = .ok (.iload_n 3, 1) := by decide +kernel
theorem dX8_shifts_113 : decode cX8_shifts 113 = .ok (.ifCond .ne 6, 3) := by decide +kernel
theorem dX8_shifts_116 : decode cX8_shifts 116 = .ok (.bipush (-2), 2) := by decide +kernel
theorem dX8_shifts_118 : decode cX8_shifts 118 = .ok (.ireturn, 1) := by decide +kernel
theorem dX8_shifts_119 : decode cX8_shifts 119 = .ok (.aload_n 0, 1) := by decide +kernel
theorem dX8_shifts_120 : decode cX8_shifts 120 = .ok (.invokevirtual 230, 3) := by decide +kernel
theorem dX8_shifts_123 : decode cX8_shifts 123 = .ok (.iconst 0, 1) := by decide +kernel
theorem dX8_shifts_124 : decode cX8_shifts 124 = .ok (.istore 4, 2) := by decide +kernel
theorem dX8_shifts_126 : decode cX8_shifts 126 = .ok (.iload 4, 2) := by decide +kernel
theorem dX8_shifts_128 : decode cX8_shifts 128 = .ok (.iconst 4, 1) := by decide +kernel
theorem dX8_shifts_129 : decode cX8_shifts 129 = .ok (.if_icmp .ge 47, 3) := by decide +kernel
theorem dX8_shifts_132 : decode cX8_shifts 132 = .ok (.aload_n 0, 1) := by decide +kernel
theorem dX8_shifts_133 : decode cX8_shifts 133 = .ok (.getfield 7, 3) := by decide +kernel
theorem dX8_shifts_136 : decode cX8_shifts 136 = .ok (.bipush 8, 2) := by decide +kernel
theorem dX8_shifts_138 : decode cX8_shifts 138 = .ok (.iload_n 1, 1) := by decide +kernel
theorem dX8_shifts_139 : decode cX8_shifts 139 = .ok (.imul, 1) := by decide +kernel
theorem dX8_shifts_140 : decode cX8_shifts 140 = .ok (.iconst 2, 1) := by decide +kernel
theorem dX8_shifts_141 : decode cX8_shifts 141 = .ok (.iload 4, 2) := by decide +kernel
theorem dX8_shifts_143 : decode cX8_shifts 143 = .ok (.imul, 1) := by decide +kernel
theorem dX8_shifts_144 : decode cX8_shifts 144 = .ok (.iadd, 1) := by decide +kernel
theorem dX8_shifts_145 : decode cX8_shifts 145 = .ok (.dup2, 1) := by decide +kernel
theorem dX8_shifts_146 : decode cX8_shifts 146 = .ok (.iaload, 1) := by decide +kernel
theorem dX8_shifts_147 : decode cX8_shifts 147 = .ok (.iload_n 2, 1) := by decide +kernel
theorem dX8_shifts_148 : decode cX8_shifts 148 = .ok (.iadd, 1) := by decide +kernel
theorem dX8_shifts_149 : decode cX8_shifts 149 = .ok (.iastore, 1) := by decide +kernel
theorem dX8_shifts_150 : decode cX8_shifts 150 = .ok (.aload_n 0, 1) := by decide +kernel
theorem dX8_shifts_151 : decode cX8_shifts 151 = .ok (.getfield 7, 3) := by decide +kernel
theorem dX8_shifts_154 : decode cX8_shifts 154 = .ok (.bipush 8, 2) := by decide +kernel
theorem dX8_shifts_156 : decode cX8_shifts 156 = .ok (.iload_n 1, 1) := by decide +kernel
theorem dX8_shifts_157 : decode cX8_shifts 157 = .ok (.imul, 1) := by decide +kernel
theorem dX8_shifts_158 : decode cX8_shifts 158 = .ok (.iconst 2, 1) := by decide +kernel
theorem dX8_shifts_159 : decode cX8_shifts 159 = .ok (.iload 4, 2) := by decide +kernel
theorem dX8_shifts_161 : decode cX8_shifts 161 = .ok (.imul, 1) := by decide +kernel
theorem dX8_shifts_162 : decode cX8_shifts 162 = .ok (.iadd, 1) := by decide +kernel
theorem dX8_shifts_163 : decode cX8_shifts 163 = .ok (.iconst 1, 1) := by decide +kernel
theorem dX8_shifts_164 : decode cX8_shifts 164 = .ok (.iadd, 1) := by decide +kernel
theorem dX8_shifts_165 : decode cX8_shifts 165 = .ok (.dup2, 1) := by decide +kernel
theorem dX8_shifts_166 : decode cX8_shifts 166 = .ok (.iaload, 1) := by decide +kernel
theorem dX8_shifts_167 : decode cX8_shifts 167 = .ok (.iload_n 3, 1) := by decide +kernel
theorem dX8_shifts_168 : decode cX8_shifts 168 = .ok (.iadd, 1) := by decide +kernel
theorem dX8_shifts_169 : decode cX8_shifts 169 = .ok (.iastore, 1) := by decide +kernel
theorem dX8_shifts_170 : decode cX8_shifts 170 = .ok (.iinc 4 1, 3) := by decide +kernel
theorem dX8_shifts_173 : decode cX8_shifts 173 = .ok (.goto (-47), 3) := by decide +kernel
theorem dX8_shifts_176 : decode cX8_shifts 176 = .ok (.iconst 1, 1) := by decide +kernel
theorem dX8_shifts_177 : decode cX8_shifts 177 = .ok (.ireturn, 1) := by decide +kernel
theorem dX8_reverses_0 : decode cX8_reverses 0 = .ok (.aload_n 0, 1) := by decide +kernel
theorem dX8_reverses_1 : decode cX8_reverses 1 = .ok (.iconst 0, 1) := by decide +kernel
theorem dX8_reverses_2 : decode cX8_reverses 2 = .ok (.putfield 60, 3) := by decide +kernel
theorem dX8_reverses_5 : decode cX8_reverses 5 = .ok (.aload_n 0, 1) := by decide +kernel
theorem dX8_reverses_6 : decode cX8_reverses 6 = .ok (.iload_n 1, 1) := by decide +kernel
theorem dX8_reverses_7 : decode cX8_reverses 7 = .ok (.invokevirtual 160, 3) := by decide +kernel
theorem dX8_reverses_10 : decode cX8_reverses 10 = .ok (.ifCond .ne 5, 3) := by decide +kernel
theorem dX8_reverses_13 : decode cX8_reverses 13 = .ok (.iconst (-1), 1) := by decide +kernel
theorem dX8_reverses_14 : decode cX8_reverses 14 = .ok (.ireturn, 1) := by decide +kernel
theorem dX8_reverses_15 : decode cX8_reverses 15 = .ok (.aload_n 0, 1) := by decide +kernel
theorem dX8_reverses_16 : decode cX8_reverses 16 = .ok (.invokevirtual 230, 3) := by decide +kernel
theorem dX8_reverses_19 : decode cX8_reverses 19 = .ok (.iconst 0, 1) := by decide +kernel
theorem dX8_reverses_20 : decode cX8_reverses 20 = .ok (.istore_n 2, 1) := by decide +kernel
theorem dX8_reverses_21 : decode cX8_reverses 21 = .ok (.iload_n 2, 1) := by decide +kernel
theorem dX8_reverses_22 : decode cX8_reverses 22 = .ok (.iconst 4, 1) := by decide +kernel
theorem dX8_reverses_23 : decode cX8_reverses 23 = .ok (.if_icmp .ge 65, 3) := by decide +kernel
theorem dX8_reverses_26 : decode cX8_reverses 26 = .ok (.bipush 8, 2) := by decide +kernel
theorem dX8_reverses_28 : decode cX8_reverses 28 = .ok (.iload_n 1, 1) := by decide +kernel
theorem dX8_reverses_29 : decode cX8_reverses 29 = .ok (.imul, 1) := by decide +kernel
theorem dX8_reverses_30 : decode cX8_reverses 30 = .ok (.iload_n 2, 1) := by decide +kernel
theorem dX8_reverses_31 : decode cX8_reverses 31 = .ok (.iadd, 1) := by decide +kernel
theorem dX8_reverses_32 : decode cX8_reverses 32 = .ok (.istore_n 3, 1) := by decide +kernel
theorem dX8_reverses_33 : decode cX8_reverses 33 = .ok (.bipush 8, 2) := by decide +kernel
theorem dX8_reverses_35 : decode cX8_reverses 35 = .ok (.iload_n 1, 1) := by decide +kernel
theorem dX8_reverses_36 : decode cX8_reverses 36 = .ok (.imul, 1) := by decide +kernel
theorem dX8_reverses_37 : decode cX8_reverses 37 = .ok (.bipush 6, 2) := by decide +kernel
theorem dX8_reverses_39 : decode cX8_reverses 39 = .ok (.iadd, 1) := by decide +kernel
theorem dX8_reverses_40 : decode cX8_reverses 40 = .ok (.iload_n 2, 1) := by decide +kernel
theorem dX8_reverses_41 : decode cX8_reverses 41 = .ok (.iconst 2, 1) := by decide +kernel
theorem dX8_reverses_42 : decode cX8_reverses 42 = .ok (.idiv, 1) := by decide +kernel
theorem dX8_reverses_43 : decode cX8_reverses 43 = .ok (.iconst 2, 1) := by decide +kernel
theorem dX8_reverses_44 : decode cX8_reverses 44 = .ok (.imul, 1) := by decide +kernel
theorem dX8_reverses_45 : decode cX8_reverses 45 = .ok (.isub, 1) := by decide +kernel
theorem dX8_reverses_46 : decode cX8_reverses 46 = .ok (.iload_n 2, 1) := by decide +kernel
theorem dX8_reverses_47 : decode cX8_reverses 47 = .ok (.iconst 2, 1) := by decide +kernel
theorem dX8_reverses_48 : decode cX8_reverses 48 = .ok (.irem, 1) := by decide +kernel
theorem dX8_reverses_49 : decode cX8_reverses 49 = .ok (.iadd, 1) := by decide +kernel
theorem dX8_reverses_50 : decode cX8_reverses 50 = .ok (.istore 4, 2) := by decide +kernel
theorem dX8_reverses_52 : decode cX8_reverses 52 = .ok (.aload_n 0, 1) := by decide +kernel
theorem dX8_reverses_53 : decode cX8_reverses 53 = .ok (.getfield 7, 3) := by decide +kernel
theorem dX8_reverses_56 : decode cX8_reverses 56 = .ok (.iload_n 3, 1) := by decide +kernel
theorem dX8_reverses_57 : decode cX8_reverses 57 = .ok (.iaload, 1) := by decide +kernel
theorem dX8_reverses_58 : decode cX8_reverses 58 = .ok (.istore 5, 2) := by decide +kernel
theorem dX8_reverses_60 : decode cX8_reverses 60 = .ok (.aload_n 0, 1) := by decide +kernel
theorem dX8_reverses_61 : decode cX8_reverses 61 = .ok (.getfield 7, 3) := by decide +kernel
theorem dX8_reverses_64 : decode cX8_reverses 64 = .ok (.iload_n 3, 1) := by decide +kernel
theorem dX8_reverses_65 : decode cX8_reverses 65 = .ok (.aload_n 0, 1) := by decide +kernel
theorem dX8_reverses_66 : decode cX8_reverses 66 = .ok (.getfield 7, 3) := by decide +kernel
theorem dX8_reverses_69 : decode cX8_reverses 69 = .ok (.iload 4, 2) := by decide +kernel
theorem dX8_reverses_71 : decode cX8_reverses 71 = .ok (.iaload, 1) := by decide +kernel
theorem dX8_reverses_72 : decode cX8_reverses 72 = .ok (.iastore, 1) := by decide +kernel
theorem dX8_reverses_73 : decode cX8_reverses 73 = .ok (.aload_n 0, 1) := by decide +kernel
theorem dX8_reverses_74 : decode cX8_reverses 74 = .ok (.getfield 7, 3) := by decide +kernel
theorem dX8_reverses_77 : decode cX8_reverses 77 = .ok (.iload 4, 2) := by decide +kernel
theorem dX8_reverses_79 : decode cX8_reverses 79 = .ok (.iload 5, 2) := by decide +kernel
theorem dX8_reverses_81 : decode cX8_reverses 81 = .ok (.iastore, 1) := by decide +kernel
theorem dX8_reverses_82 : decode cX8_reverses 82 = .ok (.iinc 2 1, 3) := by decide +kernel
theorem dX8_reverses_85 : decode cX8_reverses 85 = .ok (.goto (-64), 3) := by decide +kernel
theorem dX8_reverses_88 : decode cX8_reverses 88 = .ok (.iconst 1, 1) := by decide +kernel
theorem dX8_reverses_89 : decode cX8_reverses 89 = .ok (.ireturn, 1) := by decide +kernel
theorem dX8_undo_0 : decode cX8_undo 0 = .ok (.aload_n 0, 1) := by decide +kernel
theorem dX8_undo_1 : decode cX8_undo 1 = .ok (.iconst 0, 1) := by decide +kernel
theorem dX8_undo_2 : decode cX8_undo 2 = .ok (.putfield 60, 3) := by decide +kernel
theorem dX8_undo_5 : decode cX8_undo 5 = .ok (.aload_n 0, 1) := by decide +kernel
theorem dX8_undo_6 : decode cX8_undo 6 = .ok (.getfield 97, 3) := by decide +kernel
theorem dX8_undo_9 : decode cX8_undo 9 = .ok (.ifCond .ne 6, 3) := by decide +kernel
theorem dX8_undo_12 : decode cX8_undo 12 = .ok (.bipush (-2), 2) := by decide +kernel
theorem dX8_undo_14 : decode cX8_undo 14 = .ok (.ireturn, 1) := by decide +kernel
theorem dX8_undo_15 : decode cX8_undo 15 = .ok (.aload_n 0, 1) := by decide +kernel
theorem dX8_undo_16 : decode cX8_undo 16 = .ok (.dup, 1) := by decide +kernel
theorem dX8_undo_17 : decode cX8_undo 17 = .ok (.getfield 97, 3) := by decide +kernel
theorem dX8_undo_20 : decode cX8_undo 20 = .ok (.iconst 1, 1) := by decide +kernel
theorem dX8_undo_21 : decode cX8_undo 21 = .ok (.isub, 1) := by decide +kernel
theorem dX8_undo_22 : decode cX8_undo 22 = .ok (.putfield 97, 3) := by decide +kernel
theorem dX8_undo_25 : decode cX8_undo 25 = .ok (.iconst 0, 1) := by decide +kernel
theorem dX8_undo_26 : decode cX8_undo 26 = .ok (.istore_n 1, 1) := by decide +kernel
theorem dX8_undo_27 : decode cX8_undo 27 = .ok (.iload_n 1, 1) := by decide +kernel
theorem dX8_undo_28 : decode cX8_undo 28 = .ok (.bipush 32, 2) := by decide +kernel
theorem dX8_undo_30 : decode cX8_undo 30 = .ok (.if_icmp .ge 29, 3) := by decide +kernel
theorem dX8_undo_33 : decode cX8_undo 33 = .ok (.aload_n 0, 1) := by decide +kernel
theorem dX8_undo_34 : decode cX8_undo 34 = .ok (.getfield 7, 3) := by decide +kernel
theorem dX8_undo_37 : decode cX8_undo 37 = .ok (.iload_n 1, 1) := by decide +kernel
theorem dX8_undo_38 : decode cX8_undo 38 = .ok (.aload_n 0, 1) := by decide +kernel
theorem dX8_undo_39 : decode cX8_undo 39 = .ok (.getfield 13, 3) := by decide +kernel
theorem dX8_undo_42 : decode cX8_undo 42 = .ok (.bipush 32, 2) := by decide +kernel
theorem dX8_undo_44 : decode cX8_undo 44 = .ok (.aload_n 0, 1) := by decide +kernel
theorem dX8_undo_45 : decode cX8_undo 45 = .ok (.getfield 97, 3) := by decide +kernel
theorem dX8_undo_48 : decode cX8_undo 48 = .ok (.imul, 1) := by decide +kernel
theorem dX8_undo_49 : decode cX8_undo 49 = .ok (.iload_n 1, 1) := by decide +kernel
theorem dX8_undo_50 : decode cX8_undo 50 = .ok (.iadd, 1) := by decide +kernel
theorem dX8_undo_51 : decode cX8_undo 51 = .ok (.iaload, 1) := by decide +kernel
theorem dX8_undo_52 : decode cX8_undo 52 = .ok (.iastore, 1) := by decide +kernel
theorem dX8_undo_53 : decode cX8_undo 53 = .ok (.iinc 1 1, 3) := by decide +kernel
theorem dX8_undo_56 : decode cX8_undo 56 = .ok (.goto (-29), 3) := by decide +kernel
theorem dX8_undo_59 : decode cX8_undo 59 = .ok (.aload_n 0, 1) := by decide +kernel
theorem dX8_undo_60 : decode cX8_undo 60 = .ok (.iconst 0, 1) := by decide +kernel
theorem dX8_undo_61 : decode cX8_undo 61 = .ok (.putfield 93, 3) := by decide +kernel
theorem dX8_undo_64 : decode cX8_undo 64 = .ok (.aload_n 0, 1) := by decide +kernel
theorem dX8_undo_65 : decode cX8_undo 65 = .ok (.getfield 97, 3) := by decide +kernel
theorem dX8_undo_68 : decode cX8_undo 68 = .ok (.ireturn, 1) := by decide +kernel
theorem dX8_sees_0 : decode cX8_sees 0 = .ok (.aload_n 0, 1) := by decide +kernel
theorem dX8_sees_1 : decode cX8_sees 1 = .ok (.iconst 0, 1) := by decide +kernel
theorem dX8_sees_2 : decode cX8_sees 2 = .ok (.putfield 60, 3) := by decide +kernel
theorem dX8_sees_5 : decode cX8_sees 5 = .ok (.aload_n 0, 1) := by decide +kernel
theorem dX8_sees_6 : decode cX8_sees 6 = .ok (.iload_n 1, 1) := by decide +kernel
theorem dX8_sees_7 : decode cX8_sees 7 = .ok (.invokevirtual 160, 3) := by decide +kernel
theorem dX8_sees_10 : decode cX8_sees 10 = .ok (.ifCond .eq 13, 3) := by decide +kernel
theorem dX8_sees_13 : decode cX8_sees 13 = .ok (.iload_n 2, 1) := by decide +kernel
theorem dX8_sees_14 : decode cX8_sees 14 = .ok (.iconst 0, 1) := by decide +kernel
theorem dX8_sees_15 : decode cX8_sees 15 = .ok (.bipush 101, 2) := by decide +kernel
theorem dX8_sees_17 : decode cX8_sees 17 = .ok (.invokestatic 63, 3) := by decide +kernel
theorem dX8_sees_20 : decode cX8_sees 20 = .ok (.ifCond .ne 5, 3) := by decide +kernel
theorem dX8_sees_23 : decode cX8_sees 23 = .ok (.iconst (-1), 1) := by decide +kernel
theorem dX8_sees_24 : decode cX8_sees 24 = .ok (.ireturn, 1) := by decide +kernel
theorem dX8_sees_25 : decode cX8_sees 25 = .ok (.aload_n 0, 1) := by decide +kernel
theorem dX8_sees_26 : decode cX8_sees 26 = .ok (.getfield 100, 3) := by decide +kernel
theorem dX8_sees_29 : decode cX8_sees 29 = .ok (.bipush 6, 2) := by decide +kernel
theorem dX8_sees_31 : decode cX8_sees 31 = .ok (.if_icmp .ne 6, 3) := by decide +kernel
theorem dX8_sees_34 : decode cX8_sees 34 = .ok (.bipush (-3), 2) := by decide +kernel
theorem dX8_sees_36 : decode cX8_sees 36 = .ok (.ireturn, 1) := by decide +kernel
theorem dX8_sees_37 : decode cX8_sees 37 = .ok (.aload_n 0, 1) := by decide +kernel
theorem dX8_sees_38 : decode cX8_sees 38 = .ok (.getfield 23, 3) := by decide +kernel
theorem dX8_sees_41 : decode cX8_sees 41 = .ok (.aload_n 0, 1) := by decide +kernel
theorem dX8_sees_42 : decode cX8_sees 42 = .ok (.getfield 100, 3) := by decide +kernel
theorem dX8_sees_45 : decode cX8_sees 45 = .ok (.iload_n 1, 1) := by decide +kernel
theorem dX8_sees_46 : decode cX8_sees 46 = .ok (.iastore, 1) := by decide +kernel
theorem dX8_sees_47 : decode cX8_sees 47 = .ok (.aload_n 0, 1) := by decide +kernel
theorem dX8_sees_48 : decode cX8_sees 48 = .ok (.getfield 26, 3) := by decide +kernel
theorem dX8_sees_51 : decode cX8_sees 51 = .ok (.aload_n 0, 1) := by decide +kernel
theorem dX8_sees_52 : decode cX8_sees 52 = .ok (.getfield 100, 3) := by decide +kernel
theorem dX8_sees_55 : decode cX8_sees 55 = .ok (.iload_n 2, 1) := by decide +kernel
theorem dX8_sees_56 : decode cX8_sees 56 = .ok (.iastore, 1) := by decide +kernel
theorem dX8_sees_57 : decode cX8_sees 57 = .ok (.aload_n 0, 1) := by decide +kernel
theorem dX8_sees_58 : decode cX8_sees 58 = .ok (.dup, 1) := by decide +kernel
theorem dX8_sees_59 : decode cX8_sees 59 = .ok (.getfield 100, 3) := by decide +kernel
theorem dX8_sees_62 : decode cX8_sees 62 = .ok (.iconst 1, 1) := by decide +kernel
theorem dX8_sees_63 : decode cX8_sees 63 = .ok (.iadd, 1) := by decide +kernel
theorem dX8_sees_64 : decode cX8_sees 64 = .ok (.putfield 100, 3) := by decide +kernel
theorem dX8_sees_67 : decode cX8_sees 67 = .ok (.aload_n 0, 1) := by decide +kernel
theorem dX8_sees_68 : decode cX8_sees 68 = .ok (.getfield 100, 3) := by decide +kernel
theorem dX8_sees_71 : decode cX8_sees 71 = .ok (.ireturn, 1) := by decide +kernel
theorem dX8_forget_0 : decode cX8_forget 0 = .ok (.aload_n 0, 1) := by decide +kernel
theorem dX8_forget_1 : decode cX8_forget 1 = .ok (.iconst 0, 1) := by decide +kernel
theorem dX8_forget_2 : decode cX8_forget 2 = .ok (.putfield 60, 3) := by decide +kernel
theorem dX8_forget_5 : decode cX8_forget 5 = .ok (.aload_n 0, 1) := by decide +kernel
theorem dX8_forget_6 : decode cX8_forget 6 = .ok (.getfield 100, 3) := by decide +kernel
theorem dX8_forget_9 : decode cX8_forget 9 = .ok (.istore_n 1, 1) := by decide +kernel
theorem dX8_forget_10 : decode cX8_forget 10 = .ok (.aload_n 0, 1) := by decide +kernel
theorem dX8_forget_11 : decode cX8_forget 11 = .ok (.iconst 0, 1) := by decide +kernel
theorem dX8_forget_12 : decode cX8_forget 12 = .ok (.putfield 100, 3) := by decide +kernel
theorem dX8_forget_15 : decode cX8_forget 15 = .ok (.iload_n 1, 1) := by decide +kernel
theorem dX8_forget_16 : decode cX8_forget 16 = .ok (.ireturn, 1) := by decide +kernel
theorem dX8_unseen_0 : decode cX8_unseen 0 = .ok (.aload_n 0, 1) := by decide +kernel
theorem dX8_unseen_1 : decode cX8_unseen 1 = .ok (.iconst 0, 1) := by decide +kernel
theorem dX8_unseen_2 : decode cX8_unseen 2 = .ok (.putfield 60, 3) := by decide +kernel
theorem dX8_unseen_5 : decode cX8_unseen 5 = .ok (.iconst 0, 1) := by decide +kernel
theorem dX8_unseen_6 : decode cX8_unseen 6 = .ok (.istore_n 1, 1) := by decide +kernel
theorem dX8_unseen_7 : decode cX8_unseen 7 = .ok (.iconst 0, 1) := by decide +kernel
theorem dX8_unseen_8 : decode cX8_unseen 8 = .ok (.istore_n 2, 1) := by decide +kernel
theorem dX8_unseen_9 : decode cX8_unseen 9 = .ok (.iload_n 2, 1) := by decide +kernel
theorem dX8_unseen_10 : decode cX8_unseen 10 = .ok (.aload_n 0, 1) := by decide +kernel
theorem dX8_unseen_11 : decode cX8_unseen 11 = .ok (.getfield 56, 3) := by decide +kernel
theorem dX8_unseen_14 : decode cX8_unseen 14 = .ok (.if_icmp .ge 75, 3) := by decide +kernel
theorem dX8_unseen_17 : decode cX8_unseen 17 = .ok (.iconst 1, 1) := by decide +kernel
theorem dX8_unseen_18 : decode cX8_unseen 18 = .ok (.istore_n 3, 1) := by decide +kernel
theorem dX8_unseen_19 : decode cX8_unseen 19 = .ok (.iconst 0, 1) := by decide +kernel
theorem dX8_unseen_20 : decode cX8_unseen 20 = .ok (.istore 4, 2) := by decide +kernel
theorem dX8_unseen_22 : decode cX8_unseen 22 = .ok (.iload 4, 2) := by decide +kernel
theorem dX8_unseen_24 : decode cX8_unseen 24 = .ok (.aload_n 0, 1) := by decide +kernel
theorem dX8_unseen_25 : decode cX8_unseen 25 = .ok (.getfield 100, 3) := by decide +kernel
theorem dX8_unseen_28 : decode cX8_unseen 28 = .ok (.if_icmp .ge 41, 3) := by decide +kernel
theorem dX8_unseen_31 : decode cX8_unseen 31 = .ok (.iload_n 3, 1) := by decide +kernel
theorem dX8_unseen_32 : decode cX8_unseen 32 = .ok (.ifCond .eq 37, 3) := by decide +kernel
theorem dX8_unseen_35 : decode cX8_unseen 35 = .ok (.aload_n 0, 1) := by decide +kernel
theorem dX8_unseen_36 : decode cX8_unseen 36 = .ok (.iload_n 2, 1) := by decide +kernel
theorem dX8_unseen_37 : decode cX8_unseen 37 = .ok (.aload_n 0, 1) := by decide +kernel
theorem dX8_unseen_38 : decode cX8_unseen 38 = .ok (.getfield 23, 3) := by decide +kernel
theorem dX8_unseen_41 : decode cX8_unseen 41 = .ok (.iload 4, 2) := by decide +kernel
theorem dX8_unseen_43 : decode cX8_unseen 43 = .ok (.iaload, 1) := by decide +kernel
theorem dX8_unseen_44 : decode cX8_unseen 44 = .ok (.invokevirtual 227, 3) := by decide +kernel
theorem dX8_unseen_47 : decode cX8_unseen 47 = .ok (.aload_n 0, 1) := by decide +kernel
theorem dX8_unseen_48 : decode cX8_unseen 48 = .ok (.getfield 26, 3) := by decide +kernel
theorem dX8_unseen_51 : decode cX8_unseen 51 = .ok (.iload 4, 2) := by decide +kernel
theorem dX8_unseen_53 : decode cX8_unseen 53 = .ok (.iaload, 1) := by decide +kernel
theorem dX8_unseen_54 : decode cX8_unseen 54 = .ok (.if_icmp .ne 7, 3) := by decide +kernel
theorem dX8_unseen_57 : decode cX8_unseen 57 = .ok (.iconst 1, 1) := by decide +kernel
theorem dX8_unseen_58 : decode cX8_unseen 58 = .ok (.goto 4, 3) := by decide +kernel
theorem dX8_unseen_61 : decode cX8_unseen 61 = .ok (.iconst 0, 1) := by decide +kernel
theorem dX8_unseen_62 : decode cX8_unseen 62 = .ok (.istore_n 3, 1) := by decide +kernel
theorem dX8_unseen_63 : decode cX8_unseen 63 = .ok (.iinc 4 1, 3) := by decide +kernel
theorem dX8_unseen_66 : decode cX8_unseen 66 = .ok (.goto (-44), 3) := by decide +kernel
theorem dX8_unseen_69 : decode cX8_unseen 69 = .ok (.iload_n 1, 1) := by decide +kernel
theorem dX8_unseen_70 : decode cX8_unseen 70 = .ok (.iload_n 3, 1) := by decide +kernel
theorem dX8_unseen_71 : decode cX8_unseen 71 = .ok (.ifCond .eq 9, 3) := by decide +kernel
theorem dX8_unseen_74 : decode cX8_unseen 74 = .ok (.iconst 1, 1) := by decide +kernel
theorem dX8_unseen_75 : decode cX8_unseen 75 = .ok (.iload_n 2, 1) := by decide +kernel
theorem dX8_unseen_76 : decode cX8_unseen 76 = .ok (.ishl, 1) := by decide +kernel
theorem dX8_unseen_77 : decode cX8_unseen 77 = .ok (.goto 4, 3) := by decide +kernel
theorem dX8_unseen_80 : decode cX8_unseen 80 = .ok (.iconst 0, 1) := by decide +kernel
theorem dX8_unseen_81 : decode cX8_unseen 81 = .ok (.ior, 1) := by decide +kernel
theorem dX8_unseen_82 : decode cX8_unseen 82 = .ok (.istore_n 1, 1) := by decide +kernel
theorem dX8_unseen_83 : decode cX8_unseen 83 = .ok (.iinc 2 1, 3) := by decide +kernel
theorem dX8_unseen_86 : decode cX8_unseen 86 = .ok (.goto (-77), 3) := by decide +kernel
theorem dX8_unseen_89 : decode cX8_unseen 89 = .ok (.iload_n 1, 1) := by decide +kernel
theorem dX8_unseen_90 : decode cX8_unseen 90 = .ok (.ireturn, 1) := by decide +kernel
theorem dX8_keep_0 : decode cX8_keep 0 = .ok (.aload_n 0, 1) := by decide +kernel
theorem dX8_keep_1 : decode cX8_keep 1 = .ok (.iconst 0, 1) := by decide +kernel
theorem dX8_keep_2 : decode cX8_keep 2 = .ok (.putfield 60, 3) := by decide +kernel
theorem dX8_keep_5 : decode cX8_keep 5 = .ok (.iload_n 1, 1) := by decide +kernel
theorem dX8_keep_6 : decode cX8_keep 6 = .ok (.iconst 0, 1) := by decide +kernel
theorem dX8_keep_7 : decode cX8_keep 7 = .ok (.iconst 1, 1) := by decide +kernel
theorem dX8_keep_8 : decode cX8_keep 8 = .ok (.invokestatic 63, 3) := by decide +kernel
theorem dX8_keep_11 : decode cX8_keep 11 = .ok (.ifCond .ne 5, 3) := by decide +kernel
theorem dX8_keep_14 : decode cX8_keep 14 = .ok (.iconst (-1), 1) := by decide +kernel
theorem dX8_keep_15 : decode cX8_keep 15 = .ok (.ireturn, 1) := by decide +kernel
theorem dX8_keep_16 : decode cX8_keep 16 = .ok (.iconst 0, 1) := by decide +kernel
theorem dX8_keep_17 : decode cX8_keep 17 = .ok (.istore_n 2, 1) := by decide +kernel
theorem dX8_keep_18 : decode cX8_keep 18 = .ok (.iload_n 2, 1) := by decide +kernel
theorem dX8_keep_19 : decode cX8_keep 19 = .ok (.bipush 32, 2) := by decide +kernel
theorem dX8_keep_21 : decode cX8_keep 21 = .ok (.if_icmp .ge 26, 3) := by decide +kernel
theorem dX8_keep_24 : decode cX8_keep 24 = .ok (.aload_n 0, 1) := by decide +kernel
theorem dX8_keep_25 : decode cX8_keep 25 = .ok (.getfield 16, 3) := by decide +kernel
theorem dX8_keep_28 : decode cX8_keep 28 = .ok (.bipush 32, 2) := by decide +kernel
theorem dX8_keep_30 : decode cX8_keep 30 = .ok (.iload_n 1, 1) := by decide +kernel
theorem dX8_keep_31 : decode cX8_keep 31 = .ok (.imul, 1) := by decide +kernel
theorem dX8_keep_32 : decode cX8_keep 32 = .ok (.iload_n 2, 1) := by decide +kernel
theorem dX8_keep_33 : decode cX8_keep 33 = .ok (.iadd, 1) := by decide +kernel
theorem dX8_keep_34 : decode cX8_keep 34 = .ok (.aload_n 0, 1) := by decide +kernel
theorem dX8_keep_35 : decode cX8_keep 35 = .ok (.getfield 7, 3) := by decide +kernel
theorem dX8_keep_38 : decode cX8_keep 38 = .ok (.iload_n 2, 1) := by decide +kernel
theorem dX8_keep_39 : decode cX8_keep 39 = .ok (.iaload, 1) := by decide +kernel
theorem dX8_keep_40 : decode cX8_keep 40 = .ok (.iastore, 1) := by decide +kernel
theorem dX8_keep_41 : decode cX8_keep 41 = .ok (.iinc 2 1, 3) := by decide +kernel
theorem dX8_keep_44 : decode cX8_keep 44 = .ok (.goto (-26), 3) := by decide +kernel
theorem dX8_keep_47 : decode cX8_keep 47 = .ok (.aload_n 0, 1) := by decide +kernel
theorem dX8_keep_48 : decode cX8_keep 48 = .ok (.getfield 19, 3) := by decide +kernel
theorem dX8_keep_51 : decode cX8_keep 51 = .ok (.iload_n 1, 1) := by decide +kernel
theorem dX8_keep_52 : decode cX8_keep 52 = .ok (.iconst 1, 1) := by decide +kernel
theorem dX8_keep_53 : decode cX8_keep 53 = .ok (.bastore, 1) := by decide +kernel
theorem dX8_keep_54 : decode cX8_keep 54 = .ok (.aload_n 0, 1) := by decide +kernel
theorem dX8_keep_55 : decode cX8_keep 55 = .ok (.getfield 56, 3) := by decide +kernel
theorem dX8_keep_58 : decode cX8_keep 58 = .ok (.ireturn, 1) := by decide +kernel
theorem dX8_back_0 : decode cX8_back 0 = .ok (.aload_n 0, 1) := by decide +kernel
theorem dX8_back_1 : decode cX8_back 1 = .ok (.iconst 0, 1) := by decide +kernel
theorem dX8_back_2 : decode cX8_back 2 = .ok (.putfield 60, 3) := by decide +kernel
theorem dX8_back_5 : decode cX8_back 5 = .ok (.iload_n 1, 1) := by decide +kernel
theorem dX8_back_6 : decode cX8_back 6 = .ok (.iconst 0, 1) := by decide +kernel
theorem dX8_back_7 : decode cX8_back 7 = .ok (.iconst 1, 1) := by decide +kernel
theorem dX8_back_8 : decode cX8_back 8 = .ok (.invokestatic 63, 3) := by decide +kernel
theorem dX8_back_11 : decode cX8_back 11 = .ok (.ifCond .ne 5, 3) := by decide +kernel
theorem dX8_back_14 : decode cX8_back 14 = .ok (.iconst (-1), 1) := by decide +kernel
theorem dX8_back_15 : decode cX8_back 15 = .ok (.ireturn, 1) := by decide +kernel
theorem dX8_back_16 : decode cX8_back 16 = .ok (.aload_n 0, 1) := by decide +kernel
theorem dX8_back_17 : decode cX8_back 17 = .ok (.getfield 19, 3) := by decide +kernel
theorem dX8_back_20 : decode cX8_back 20 = .ok (.iload_n 1, 1) := by decide +kernel
theorem dX8_back_21 : decode cX8_back 21 = .ok (.baload, 1) := by decide +kernel
theorem dX8_back_22 : decode cX8_back 22 = .ok (.ifCond .ne 6, 3) := by decide +kernel
theorem dX8_back_25 : decode cX8_back 25 = .ok (.bipush (-2), 2) := by decide +kernel
theorem dX8_back_27 : decode cX8_back 27 = .ok (.ireturn, 1) := by decide +kernel
theorem dX8_back_28 : decode cX8_back 28 = .ok (.iconst 0, 1) := by decide +kernel
theorem dX8_back_29 : decode cX8_back 29 = .ok (.istore_n 2, 1) := by decide +kernel
theorem dX8_back_30 : decode cX8_back 30 = .ok (.iload_n 2, 1) := by decide +kernel
theorem dX8_back_31 : decode cX8_back 31 = .ok (.bipush 32, 2) := by decide +kernel
theorem dX8_back_33 : decode cX8_back 33 = .ok (.if_icmp .ge 26, 3) := by decide +kernel
theorem dX8_back_36 : decode cX8_back 36 = .ok (.aload_n 0, 1) := by decide +kernel
theorem dX8_back_37 : decode cX8_back 37 = .ok (.getfield 7, 3) := by decide +kernel
theorem dX8_back_40 : decode cX8_back 40 = .ok (.iload_n 2, 1) := by decide +kernel
theorem dX8_back_41 : decode cX8_back 41 = .ok (.aload_n 0, 1) := by decide +kernel
theorem dX8_back_42 : decode cX8_back 42 = .ok (.getfield 16, 3) := by decide +kernel
theorem dX8_back_45 : decode cX8_back 45 = .ok (.bipush 32, 2) := by decide +kernel
theorem dX8_back_47 : decode cX8_back 47 = .ok (.iload_n 1, 1) := by decide +kernel
theorem dX8_back_48 : decode cX8_back 48 = .ok (.imul, 1) := by decide +kernel
theorem dX8_back_49 : decode cX8_back 49 = .ok (.iload_n 2, 1) := by decide +kernel
theorem dX8_back_50 : decode cX8_back 50 = .ok (.iadd, 1) := by decide +kernel
theorem dX8_back_51 : decode cX8_back 51 = .ok (.iaload, 1) := by decide +kernel
theorem dX8_back_52 : decode cX8_back 52 = .ok (.iastore, 1) := by decide +kernel
theorem dX8_back_53 : decode cX8_back 53 = .ok (.iinc 2 1, 3) := by decide +kernel
theorem dX8_back_56 : decode cX8_back 56 = .ok (.goto (-26), 3) := by decide +kernel
theorem dX8_back_59 : decode cX8_back 59 = .ok (.aload_n 0, 1) := by decide +kernel
theorem dX8_back_60 : decode cX8_back 60 = .ok (.iconst 0, 1) := by decide +kernel
theorem dX8_back_61 : decode cX8_back 61 = .ok (.putfield 93, 3) := by decide +kernel
theorem dX8_back_64 : decode cX8_back 64 = .ok (.aload_n 0, 1) := by decide +kernel
theorem dX8_back_65 : decode cX8_back 65 = .ok (.iconst 0, 1) := by decide +kernel
theorem dX8_back_66 : decode cX8_back 66 = .ok (.putfield 97, 3) := by decide +kernel
theorem dX8_back_69 : decode cX8_back 69 = .ok (.aload_n 0, 1) := by decide +kernel
theorem dX8_back_70 : decode cX8_back 70 = .ok (.getfield 56, 3) := by decide +kernel
theorem dX8_back_73 : decode cX8_back 73 = .ok (.ireturn, 1) := by decide +kernel
theorem dX8_count_0 : decode cX8_count 0 = .ok (.aload_n 0, 1) := by decide +kernel
theorem dX8_count_1 : decode cX8_count 1 = .ok (.iconst 0, 1) := by decide +kernel
theorem dX8_count_2 : decode cX8_count 2 = .ok (.putfield 60, 3) := by decide +kernel
theorem dX8_count_5 : decode cX8_count 5 = .ok (.iload_n 1, 1) := by decide +kernel
theorem dX8_count_6 : decode cX8_count 6 = .ok (.tableswitch 50 0 3 #[30, 35, 40, 45], 30) := by decide +kernel
theorem dX8_count_36 : decode cX8_count 36 = .ok (.aload_n 0, 1) := by decide +kernel
theorem dX8_count_37 : decode cX8_count 37 = .ok (.getfield 56, 3) := by decide +kernel
theorem dX8_count_40 : decode cX8_count 40 = .ok (.ireturn, 1) := by decide +kernel
theorem dX8_count_41 : decode cX8_count 41 = .ok (.aload_n 0, 1) := by decide +kernel
theorem dX8_count_42 : decode cX8_count 42 = .ok (.getfield 100, 3) := by decide +kernel
theorem dX8_count_45 : decode cX8_count 45 = .ok (.ireturn, 1) := by decide +kernel
theorem dX8_count_46 : decode cX8_count 46 = .ok (.aload_n 0, 1) := by decide +kernel
theorem dX8_count_47 : decode cX8_count 47 = .ok (.getfield 67, 3) := by decide +kernel
theorem dX8_count_50 : decode cX8_count 50 = .ok (.ireturn, 1) := by decide +kernel
theorem dX8_count_51 : decode cX8_count 51 = .ok (.aload_n 0, 1) := by decide +kernel
theorem dX8_count_52 : decode cX8_count 52 = .ok (.getfield 97, 3) := by decide +kernel
theorem dX8_count_55 : decode cX8_count 55 = .ok (.ireturn, 1) := by decide +kernel
theorem dX8_count_56 : decode cX8_count 56 = .ok (.iconst (-1), 1) := by decide +kernel
theorem dX8_count_57 : decode cX8_count 57 = .ok (.ireturn, 1) := by decide +kernel
theorem dJ9_abs_0f7a4_0 : decode cJ9_abs_0f7a4 0 = .ok (.iload_n 0, 1) := by decide +kernel
theorem dJ9_abs_0f7a4_1 : decode cJ9_abs_0f7a4 1 = .ok (.ifCond .ge 8, 3) := by decide +kernel
theorem dJ9_abs_0f7a4_4 : decode cJ9_abs_0f7a4 4 = .ok (.iload_n 0, 1) := by decide +kernel
theorem dJ9_abs_0f7a4_5 : decode cJ9_abs_0f7a4 5 = .ok (.ineg, 1) := by decide +kernel
theorem dJ9_abs_0f7a4_6 : decode cJ9_abs_0f7a4 6 = .ok (.goto 4, 3) := by decide +kernel
theorem dJ9_abs_0f7a4_9 : decode cJ9_abs_0f7a4 9 = .ok (.iload_n 0, 1) := by decide +kernel
theorem dJ9_abs_0f7a4_10 : decode cJ9_abs_0f7a4 10 = .ok (.ireturn, 1) := by decide +kernel
theorem dJ9_max_7cf53_0 : decode cJ9_max_7cf53 0 = .ok (.iload_n 0, 1) := by decide +kernel
theorem dJ9_max_7cf53_1 : decode cJ9_max_7cf53 1 = .ok (.iload_n 1, 1) := by decide +kernel
theorem dJ9_max_7cf53_2 : decode cJ9_max_7cf53 2 = .ok (.if_icmp .lt 7, 3) := by decide +kernel
theorem dJ9_max_7cf53_5 : decode cJ9_max_7cf53 5 = .ok (.iload_n 0, 1) := by decide +kernel
theorem dJ9_max_7cf53_6 : decode cJ9_max_7cf53 6 = .ok (.goto 4, 3) := by decide +kernel
theorem dJ9_max_7cf53_9 : decode cJ9_max_7cf53 9 = .ok (.iload_n 1, 1) := by decide +kernel
theorem dJ9_max_7cf53_10 : decode cJ9_max_7cf53 10 = .ok (.ireturn, 1) := by decide +kernel
theorem dJ9_max_f86c9_0 : decode cJ9_max_f86c9 0 = .ok (.lload_n 0, 1) := by decide +kernel
theorem dJ9_max_f86c9_1 : decode cJ9_max_f86c9 1 = .ok (.lload_n 2, 1) := by decide +kernel
theorem dJ9_max_f86c9_2 : decode cJ9_max_f86c9 2 = .ok (.lcmp, 1) := by decide +kernel
theorem dJ9_max_f86c9_3 : decode cJ9_max_f86c9 3 = .ok (.ifCond .lt 7, 3) := by decide +kernel
theorem dJ9_max_f86c9_6 : decode cJ9_max_f86c9 6 = .ok (.lload_n 0, 1) := by decide +kernel
theorem dJ9_max_f86c9_7 : decode cJ9_max_f86c9 7 = .ok (.goto 4, 3) := by decide +kernel
theorem dJ9_max_f86c9_10 : decode cJ9_max_f86c9 10 = .ok (.lload_n 2, 1) := by decide +kernel
theorem dJ9_max_f86c9_11 : decode cJ9_max_f86c9 11 = .ok (.lreturn, 1) := by decide +kernel
theorem dJ9_min_7cf53_0 : decode cJ9_min_7cf53 0 = .ok (.iload_n 0, 1) := by decide +kernel
theorem dJ9_min_7cf53_1 : decode cJ9_min_7cf53 1 = .ok (.iload_n 1, 1) := by decide +kernel
theorem dJ9_min_7cf53_2 : decode cJ9_min_7cf53 2 = .ok (.if_icmp .gt 7, 3) := by decide +kernel
theorem dJ9_min_7cf53_5 : decode cJ9_min_7cf53 5 = .ok (.iload_n 0, 1) := by decide +kernel
theorem dJ9_min_7cf53_6 : decode cJ9_min_7cf53 6 = .ok (.goto 4, 3) := by decide +kernel
theorem dJ9_min_7cf53_9 : decode cJ9_min_7cf53 9 = .ok (.iload_n 1, 1) := by decide +kernel
theorem dJ9_min_7cf53_10 : decode cJ9_min_7cf53 10 = .ok (.ireturn, 1) := by decide +kernel
theorem dJ9_min_f86c9_0 : decode cJ9_min_f86c9 0 = .ok (.lload_n 0, 1) := by decide +kernel
theorem dJ9_min_f86c9_1 : decode cJ9_min_f86c9 1 = .ok (.lload_n 2, 1) := by decide +kernel
theorem dJ9_min_f86c9_2 : decode cJ9_min_f86c9 2 = .ok (.lcmp, 1) := by decide +kernel
theorem dJ9_min_f86c9_3 : decode cJ9_min_f86c9 3 = .ok (.ifCond .gt 7, 3) := by decide +kernel
theorem dJ9_min_f86c9_6 : decode cJ9_min_f86c9 6 = .ok (.lload_n 0, 1) := by decide +kernel
theorem dJ9_min_f86c9_7 : decode cJ9_min_f86c9 7 = .ok (.goto 4, 3) := by decide +kernel
theorem dJ9_min_f86c9_10 : decode cJ9_min_f86c9 10 = .ok (.lload_n 2, 1) := by decide +kernel
theorem dJ9_min_f86c9_11 : decode cJ9_min_f86c9 11 = .ok (.lreturn, 1) := by decide +kernel
theorem dL_law_0 : decode cL_law 0 = .ok (.new 7, 3) := by decide +kernel
theorem dL_law_3 : decode cL_law 3 = .ok (.dup, 1) := by decide +kernel
theorem dL_law_4 : decode cL_law 4 = .ok (.invokespecial 9, 3) := by decide +kernel
theorem dL_law_7 : decode cL_law 7 = .ok (.astore_n 1, 1) := by decide +kernel
theorem dL_law_8 : decode cL_law 8 = .ok (.new 10, 3) := by decide +kernel
theorem dL_law_11 : decode cL_law 11 = .ok (.dup, 1) := by decide +kernel
theorem dL_law_12 : decode cL_law 12 = .ok (.invokespecial 12, 3) := by decide +kernel
theorem dL_law_15 : decode cL_law 15 = .ok (.astore_n 2, 1) := by decide +kernel
theorem dL_law_16 : decode cL_law 16 = .ok (.iconst 0, 1) := by decide +kernel
theorem dL_law_17 : decode cL_law 17 = .ok (.istore_n 3, 1) := by decide +kernel
theorem dL_law_18 : decode cL_law 18 = .ok (.iload_n 3, 1) := by decide +kernel
theorem dL_law_19 : decode cL_law 19 = .ok (.aload_n 0, 1) := by decide +kernel
theorem dL_law_20 : decode cL_law 20 = .ok (.arraylength, 1) := by decide +kernel
theorem dL_law_21 : decode cL_law 21 = .ok (.iconst 5, 1) := by decide +kernel
theorem dL_law_22 : decode cL_law 22 = .ok (.isub, 1) := by decide +kernel
theorem dL_law_23 : decode cL_law 23 = .ok (.if_icmp .gt 872, 3) := by decide +kernel
theorem dL_law_26 : decode cL_law 26 = .ok (.aload_n 0, 1) := by decide +kernel
theorem dL_law_27 : decode cL_law 27 = .ok (.iload_n 3, 1) := by decide +kernel
theorem dL_law_28 : decode cL_law 28 = .ok (.iaload, 1) := by decide +kernel
theorem dL_law_29 : decode cL_law 29 = .ok (.bipush 31, 2) := by decide +kernel
theorem dL_law_31 : decode cL_law 31 = .ok (.iand, 1) := by decide +kernel
theorem dL_law_32 : decode cL_law 32 = .ok (.tableswitch 857 0 22 #[108, 131, 144, 157, 210, 263, 306, 329, 342, 395, 448, 481, 524, 557, 600, 653, 706, 729, 762, 775, 788, 811, 834], 108) := by decide +kernel
theorem dL_law_140 : decode cL_law 140 = .ok (.aload_n 1, 1) := by decide +kernel
theorem dL_law_141 : decode cL_law 141 = .ok (.aload_n 0, 1) := by decide +kernel
theorem dL_law_142 : decode cL_law 142 = .ok (.iload_n 3, 1) := by decide +kernel
theorem dL_law_143 : decode cL_law 143 = .ok (.iconst 1, 1) := by decide +kernel
theorem dL_law_144 : decode cL_law 144 = .ok (.iadd, 1) := by decide +kernel
theorem dL_law_145 : decode cL_law 145 = .ok (.iaload, 1) := by decide +kernel
theorem dL_law_146 : decode cL_law 146 = .ok (.invokevirtual 13, 3) := by decide +kernel
theorem dL_law_149 : decode cL_law 149 = .ok (.aload_n 2, 1) := by decide +kernel
theorem dL_law_150 : decode cL_law 150 = .ok (.aload_n 0, 1) := by decide +kernel
theorem dL_law_151 : decode cL_law 151 = .ok (.iload_n 3, 1) := by decide +kernel
theorem dL_law_152 : decode cL_law 152 = .ok (.iconst 1, 1) := by decide +kernel
theorem dL_law_153 : decode cL_law 153 = .ok (.iadd, 1) := by decide +kernel
theorem dL_law_154 : decode cL_law 154 = .ok (.iaload, 1) := by decide +kernel
theorem dL_law_155 : decode cL_law 155 = .ok (.invokevirtual 17, 3) := by decide +kernel
theorem dL_law_158 : decode cL_law 158 = .ok (.if_icmp .eq 731, 3) := by decide +kernel
theorem dL_law_161 : decode cL_law 161 = .ok (.iconst 0, 1) := by decide +kernel
theorem dL_law_162 : decode cL_law 162 = .ok (.ireturn, 1) := by decide +kernel
theorem dL_law_163 : decode cL_law 163 = .ok (.aload_n 1, 1) := by decide +kernel
theorem dL_law_164 : decode cL_law 164 = .ok (.invokevirtual 18, 3) := by decide +kernel
theorem dL_law_167 : decode cL_law 167 = .ok (.aload_n 2, 1) := by decide +kernel
theorem dL_law_168 : decode cL_law 168 = .ok (.invokevirtual 22, 3) := by decide +kernel
theorem dL_law_171 : decode cL_law 171 = .ok (.if_icmp .eq 718, 3) := by decide +kernel
theorem dL_law_174 : decode cL_law 174 = .ok (.iconst 0, 1) := by decide +kernel
theorem dL_law_175 : decode cL_law 175 = .ok (.ireturn, 1) := by decide +kernel
theorem dL_law_176 : decode cL_law 176 = .ok (.aload_n 1, 1) := by decide +kernel
theorem dL_law_177 : decode cL_law 177 = .ok (.invokevirtual 23, 3) := by decide +kernel
theorem dL_law_180 : decode cL_law 180 = .ok (.aload_n 2, 1) := by decide +kernel
theorem dL_law_181 : decode cL_law 181 = .ok (.invokevirtual 26, 3) := by decide +kernel
theorem dL_law_184 : decode cL_law 184 = .ok (.if_icmp .eq 705, 3) := by decide +kernel
theorem dL_law_187 : decode cL_law 187 = .ok (.iconst 0, 1) := by decide +kernel
theorem dL_law_188 : decode cL_law 188 = .ok (.ireturn, 1) := by decide +kernel
theorem dL_law_189 : decode cL_law 189 = .ok (.aload_n 1, 1) := by decide +kernel
theorem dL_law_190 : decode cL_law 190 = .ok (.aload_n 0, 1) := by decide +kernel
theorem dL_law_191 : decode cL_law 191 = .ok (.iload_n 3, 1) := by decide +kernel
theorem dL_law_192 : decode cL_law 192 = .ok (.iconst 1, 1) := by decide +kernel
theorem dL_law_193 : decode cL_law 193 = .ok (.iadd, 1) := by decide +kernel
theorem dL_law_194 : decode cL_law 194 = .ok (.iaload, 1) := by decide +kernel
theorem dL_law_195 : decode cL_law 195 = .ok (.aload_n 0, 1) := by decide +kernel
theorem dL_law_196 : decode cL_law 196 = .ok (.iload_n 3, 1) := by decide +kernel
theorem dL_law_197 : decode cL_law 197 = .ok (.iconst 2, 1) := by decide +kernel
theorem dL_law_198 : decode cL_law 198 = .ok (.iadd, 1) := by decide +kernel
theorem dL_law_199 : decode cL_law 199 = .ok (.iaload, 1) := by decide +kernel
theorem dL_law_200 : decode cL_law 200 = .ok (.aload_n 0, 1) := by decide +kernel
theorem dL_law_201 : decode cL_law 201 = .ok (.iload_n 3, 1) := by decide +kernel
theorem dL_law_202 : decode cL_law 202 = .ok (.iconst 3, 1) := by decide +kernel
theorem dL_law_203 : decode cL_law 203 = .ok (.iadd, 1) := by decide +kernel
theorem dL_law_204 : decode cL_law 204 = .ok (.iaload, 1) := by decide +kernel
theorem dL_law_205 : decode cL_law 205 = .ok (.aload_n 0, 1) := by decide +kernel
theorem dL_law_206 : decode cL_law 206 = .ok (.iload_n 3, 1) := by decide +kernel
theorem dL_law_207 : decode cL_law 207 = .ok (.iconst 4, 1) := by decide +kernel
theorem dL_law_208 : decode cL_law 208 = .ok (.iadd, 1) := by decide +kernel
theorem dL_law_209 : decode cL_law 209 = .ok (.iaload, 1) := by decide +kernel
theorem dL_law_210 : decode cL_law 210 = .ok (.invokevirtual 27, 3) := by decide +kernel
theorem dL_law_213 : decode cL_law 213 = .ok (.aload_n 2, 1) := by decide +kernel
theorem dL_law_214 : decode cL_law 214 = .ok (.aload_n 0, 1) := by decide +kernel
theorem dL_law_215 : decode cL_law 215 = .ok (.iload_n 3, 1) := by decide +kernel
theorem dL_law_216 : decode cL_law 216 = .ok (.iconst 1, 1) := by decide +kernel
theorem dL_law_217 : decode cL_law 217 = .ok (.iadd, 1) := by decide +kernel
theorem dL_law_218 : decode cL_law 218 = .ok (.iaload, 1) := by decide +kernel
theorem dL_law_219 : decode cL_law 219 = .ok (.aload_n 0, 1) := by decide +kernel
theorem dL_law_220 : decode cL_law 220 = .ok (.iload_n 3, 1) := by decide +kernel
theorem dL_law_221 : decode cL_law 221 = .ok (.iconst 2, 1) := by decide +kernel
theorem dL_law_222 : decode cL_law 222 = .ok (.iadd, 1) := by decide +kernel
theorem dL_law_223 : decode cL_law 223 = .ok (.iaload, 1) := by decide +kernel
theorem dL_law_224 : decode cL_law 224 = .ok (.aload_n 0, 1) := by decide +kernel
theorem dL_law_225 : decode cL_law 225 = .ok (.iload_n 3, 1) := by decide +kernel
theorem dL_law_226 : decode cL_law 226 = .ok (.iconst 3, 1) := by decide +kernel
theorem dL_law_227 : decode cL_law 227 = .ok (.iadd, 1) := by decide +kernel
theorem dL_law_228 : decode cL_law 228 = .ok (.iaload, 1) := by decide +kernel
theorem dL_law_229 : decode cL_law 229 = .ok (.aload_n 0, 1) := by decide +kernel
theorem dL_law_230 : decode cL_law 230 = .ok (.iload_n 3, 1) := by decide +kernel
theorem dL_law_231 : decode cL_law 231 = .ok (.iconst 4, 1) := by decide +kernel
theorem dL_law_232 : decode cL_law 232 = .ok (.iadd, 1) := by decide +kernel
theorem dL_law_233 : decode cL_law 233 = .ok (.iaload, 1) := by decide +kernel
theorem dL_law_234 : decode cL_law 234 = .ok (.invokevirtual 31, 3) := by decide +kernel
theorem dL_law_237 : decode cL_law 237 = .ok (.if_icmp .eq 652, 3) := by decide +kernel
theorem dL_law_240 : decode cL_law 240 = .ok (.iconst 0, 1) := by decide +kernel
theorem dL_law_241 : decode cL_law 241 = .ok (.ireturn, 1) := by decide +kernel
theorem dL_law_242 : decode cL_law 242 = .ok (.aload_n 1, 1) := by decide +kernel
theorem dL_law_243 : decode cL_law 243 = .ok (.aload_n 0, 1) := by decide +kernel
theorem dL_law_244 : decode cL_law 244 = .ok (.iload_n 3, 1) := by decide +kernel
theorem dL_law_245 : decode cL_law 245 = .ok (.iconst 1, 1) := by decide +kernel
theorem dL_law_246 : decode cL_law 246 = .ok (.iadd, 1) := by decide +kernel
theorem dL_law_247 : decode cL_law 247 = .ok (.iaload, 1) := by decide +kernel
theorem dL_law_248 : decode cL_law 248 = .ok (.aload_n 0, 1) := by decide +kernel
theorem dL_law_249 : decode cL_law 249 = .ok (.iload_n 3, 1) := by decide +kernel
theorem dL_law_250 : decode cL_law 250 = .ok (.iconst 2, 1) := by decide +kernel
theorem dL_law_251 : decode cL_law 251 = .ok (.iadd, 1) := by decide +kernel
theorem dL_law_252 : decode cL_law 252 = .ok (.iaload, 1) := by decide +kernel
theorem dL_law_253 : decode cL_law 253 = .ok (.aload_n 0, 1) := by decide +kernel
theorem dL_law_254 : decode cL_law 254 = .ok (.iload_n 3, 1) := by decide +kernel
theorem dL_law_255 : decode cL_law 255 = .ok (.iconst 3, 1) := by decide +kernel
theorem dL_law_256 : decode cL_law 256 = .ok (.iadd, 1) := by decide +kernel
theorem dL_law_257 : decode cL_law 257 = .ok (.iaload, 1) := by decide +kernel
theorem dL_law_258 : decode cL_law 258 = .ok (.aload_n 0, 1) := by decide +kernel
theorem dL_law_259 : decode cL_law 259 = .ok (.iload_n 3, 1) := by decide +kernel
theorem dL_law_260 : decode cL_law 260 = .ok (.iconst 4, 1) := by decide +kernel
theorem dL_law_261 : decode cL_law 261 = .ok (.iadd, 1) := by decide +kernel
theorem dL_law_262 : decode cL_law 262 = .ok (.iaload, 1) := by decide +kernel
theorem dL_law_263 : decode cL_law 263 = .ok (.invokevirtual 32, 3) := by decide +kernel
theorem dL_law_266 : decode cL_law 266 = .ok (.aload_n 2, 1) := by decide +kernel
theorem dL_law_267 : decode cL_law 267 = .ok (.aload_n 0, 1) := by decide +kernel
theorem dL_law_268 : decode cL_law 268 = .ok (.iload_n 3, 1) := by decide +kernel
theorem dL_law_269 : decode cL_law 269 = .ok (.iconst 1, 1) := by decide +kernel
theorem dL_law_270 : decode cL_law 270 = .ok (.iadd, 1) := by decide +kernel
theorem dL_law_271 : decode cL_law 271 = .ok (.iaload, 1) := by decide +kernel
theorem dL_law_272 : decode cL_law 272 = .ok (.aload_n 0, 1) := by decide +kernel
theorem dL_law_273 : decode cL_law 273 = .ok (.iload_n 3, 1) := by decide +kernel
theorem dL_law_274 : decode cL_law 274 = .ok (.iconst 2, 1) := by decide +kernel
theorem dL_law_275 : decode cL_law 275 = .ok (.iadd, 1) := by decide +kernel
theorem dL_law_276 : decode cL_law 276 = .ok (.iaload, 1) := by decide +kernel
theorem dL_law_277 : decode cL_law 277 = .ok (.aload_n 0, 1) := by decide +kernel
theorem dL_law_278 : decode cL_law 278 = .ok (.iload_n 3, 1) := by decide +kernel
theorem dL_law_279 : decode cL_law 279 = .ok (.iconst 3, 1) := by decide +kernel
theorem dL_law_280 : decode cL_law 280 = .ok (.iadd, 1) := by decide +kernel
theorem dL_law_281 : decode cL_law 281 = .ok (.iaload, 1) := by decide +kernel
theorem dL_law_282 : decode cL_law 282 = .ok (.aload_n 0, 1) := by decide +kernel
theorem dL_law_283 : decode cL_law 283 = .ok (.iload_n 3, 1) := by decide +kernel
theorem dL_law_284 : decode cL_law 284 = .ok (.iconst 4, 1) := by decide +kernel
theorem dL_law_285 : decode cL_law 285 = .ok (.iadd, 1) := by decide +kernel
theorem dL_law_286 : decode cL_law 286 = .ok (.iaload, 1) := by decide +kernel
theorem dL_law_287 : decode cL_law 287 = .ok (.invokevirtual 35, 3) := by decide +kernel
theorem dL_law_290 : decode cL_law 290 = .ok (.if_icmp .eq 599, 3) := by decide +kernel
theorem dL_law_293 : decode cL_law 293 = .ok (.iconst 0, 1) := by decide +kernel
theorem dL_law_294 : decode cL_law 294 = .ok (.ireturn, 1) := by decide +kernel
theorem dL_law_295 : decode cL_law 295 = .ok (.aload_n 1, 1) := by decide +kernel
theorem dL_law_296 : decode cL_law 296 = .ok (.aload_n 0, 1) := by decide +kernel
theorem dL_law_297 : decode cL_law 297 = .ok (.iload_n 3, 1) := by decide +kernel
theorem dL_law_298 : decode cL_law 298 = .ok (.iconst 1, 1) := by decide +kernel
theorem dL_law_299 : decode cL_law 299 = .ok (.iadd, 1) := by decide +kernel
theorem dL_law_300 : decode cL_law 300 = .ok (.iaload, 1) := by decide +kernel
theorem dL_law_301 : decode cL_law 301 = .ok (.aload_n 0, 1) := by decide +kernel
theorem dL_law_302 : decode cL_law 302 = .ok (.iload_n 3, 1) := by decide +kernel
theorem dL_law_303 : decode cL_law 303 = .ok (.iconst 2, 1) := by decide +kernel
theorem dL_law_304 : decode cL_law 304 = .ok (.iadd, 1) := by decide +kernel
theorem dL_law_305 : decode cL_law 305 = .ok (.iaload, 1) := by decide +kernel
theorem dL_law_306 : decode cL_law 306 = .ok (.aload_n 0, 1) := by decide +kernel
theorem dL_law_307 : decode cL_law 307 = .ok (.iload_n 3, 1) := by decide +kernel
theorem dL_law_308 : decode cL_law 308 = .ok (.iconst 3, 1) := by decide +kernel
theorem dL_law_309 : decode cL_law 309 = .ok (.iadd, 1) := by decide +kernel
theorem dL_law_310 : decode cL_law 310 = .ok (.iaload, 1) := by decide +kernel
theorem dL_law_311 : decode cL_law 311 = .ok (.invokevirtual 36, 3) := by decide +kernel
theorem dL_law_314 : decode cL_law 314 = .ok (.aload_n 2, 1) := by decide +kernel
theorem dL_law_315 : decode cL_law 315 = .ok (.aload_n 0, 1) := by decide +kernel
theorem dL_law_316 : decode cL_law 316 = .ok (.iload_n 3, 1) := by decide +kernel
theorem dL_law_317 : decode cL_law 317 = .ok (.iconst 1, 1) := by decide +kernel
theorem dL_law_318 : decode cL_law 318 = .ok (.iadd, 1) := by decide +kernel
theorem dL_law_319 : decode cL_law 319 = .ok (.iaload, 1) := by decide +kernel
theorem dL_law_320 : decode cL_law 320 = .ok (.aload_n 0, 1) := by decide +kernel
theorem dL_law_321 : decode cL_law 321 = .ok (.iload_n 3, 1) := by decide +kernel
theorem dL_law_322 : decode cL_law 322 = .ok (.iconst 2, 1) := by decide +kernel
theorem dL_law_323 : decode cL_law 323 = .ok (.iadd, 1) := by decide +kernel
theorem dL_law_324 : decode cL_law 324 = .ok (.iaload, 1) := by decide +kernel
theorem dL_law_325 : decode cL_law 325 = .ok (.aload_n 0, 1) := by decide +kernel
theorem dL_law_326 : decode cL_law 326 = .ok (.iload_n 3, 1) := by decide +kernel
theorem dL_law_327 : decode cL_law 327 = .ok (.iconst 3, 1) := by decide +kernel
theorem dL_law_328 : decode cL_law 328 = .ok (.iadd, 1) := by decide +kernel
theorem dL_law_329 : decode cL_law 329 = .ok (.iaload, 1) := by decide +kernel
theorem dL_law_330 : decode cL_law 330 = .ok (.invokevirtual 40, 3) := by decide +kernel
theorem dL_law_333 : decode cL_law 333 = .ok (.if_icmp .eq 556, 3) := by decide +kernel
theorem dL_law_336 : decode cL_law 336 = .ok (.iconst 0, 1) := by decide +kernel
theorem dL_law_337 : decode cL_law 337 = .ok (.ireturn, 1) := by decide +kernel
theorem dL_law_338 : decode cL_law 338 = .ok (.aload_n 1, 1) := by decide +kernel
theorem dL_law_339 : decode cL_law 339 = .ok (.aload_n 0, 1) := by decide +kernel
theorem dL_law_340 : decode cL_law 340 = .ok (.iload_n 3, 1) := by decide +kernel
theorem dL_law_341 : decode cL_law 341 = .ok (.iconst 1, 1) := by decide +kernel
theorem dL_law_342 : decode cL_law 342 = .ok (.iadd, 1) := by decide +kernel
theorem dL_law_343 : decode cL_law 343 = .ok (.iaload, 1) := by decide +kernel
theorem dL_law_344 : decode cL_law 344 = .ok (.invokevirtual 41, 3) := by decide +kernel
theorem dL_law_347 : decode cL_law 347 = .ok (.aload_n 2, 1) := by decide +kernel
theorem dL_law_348 : decode cL_law 348 = .ok (.aload_n 0, 1) := by decide +kernel
theorem dL_law_349 : decode cL_law 349 = .ok (.iload_n 3, 1) := by decide +kernel
theorem dL_law_350 : decode cL_law 350 = .ok (.iconst 1, 1) := by decide +kernel
theorem dL_law_351 : decode cL_law 351 = .ok (.iadd, 1) := by decide +kernel
theorem dL_law_352 : decode cL_law 352 = .ok (.iaload, 1) := by decide +kernel
theorem dL_law_353 : decode cL_law 353 = .ok (.invokevirtual 44, 3) := by decide +kernel
theorem dL_law_356 : decode cL_law 356 = .ok (.if_icmp .eq 533, 3) := by decide +kernel
theorem dL_law_359 : decode cL_law 359 = .ok (.iconst 0, 1) := by decide +kernel
theorem dL_law_360 : decode cL_law 360 = .ok (.ireturn, 1) := by decide +kernel
theorem dL_law_361 : decode cL_law 361 = .ok (.aload_n 1, 1) := by decide +kernel
theorem dL_law_362 : decode cL_law 362 = .ok (.invokevirtual 45, 3) := by decide +kernel
theorem dL_law_365 : decode cL_law 365 = .ok (.aload_n 2, 1) := by decide +kernel
theorem dL_law_366 : decode cL_law 366 = .ok (.invokevirtual 48, 3) := by decide +kernel
theorem dL_law_369 : decode cL_law 369 = .ok (.if_icmp .eq 520, 3) := by decide +kernel
theorem dL_law_372 : decode cL_law 372 = .ok (.iconst 0, 1) := by decide +kernel
theorem dL_law_373 : decode cL_law 373 = .ok (.ireturn, 1) := by decide +kernel
theorem dL_law_374 : decode cL_law 374 = .ok (.aload_n 1, 1) := by decide +kernel
theorem dL_law_375 : decode cL_law 375 = .ok (.aload_n 0, 1) := by decide +kernel
theorem dL_law_376 : decode cL_law 376 = .ok (.iload_n 3, 1) := by decide +kernel
theorem dL_law_377 : decode cL_law 377 = .ok (.iconst 1, 1) := by decide +kernel
theorem dL_law_378 : decode cL_law 378 = .ok (.iadd, 1) := by decide +kernel
theorem dL_law_379 : decode cL_law 379 = .ok (.iaload, 1) := by decide +kernel
theorem dL_law_380 : decode cL_law 380 = .ok (.aload_n 0, 1) := by decide +kernel
theorem dL_law_381 : decode cL_law 381 = .ok (.iload_n 3, 1) := by decide +kernel
theorem dL_law_382 : decode cL_law 382 = .ok (.iconst 2, 1) := by decide +kernel
theorem dL_law_383 : decode cL_law 383 = .ok (.iadd, 1) := by decide +kernel
theorem dL_law_384 : decode cL_law 384 = .ok (.iaload, 1) := by decide +kernel
theorem dL_law_385 : decode cL_law 385 = .ok (.aload_n 0, 1) := by decide +kernel
theorem dL_law_386 : decode cL_law 386 = .ok (.iload_n 3, 1) := by decide +kernel
theorem dL_law_387 : decode cL_law 387 = .ok (.iconst 3, 1) := by decide +kernel
theorem dL_law_388 : decode cL_law 388 = .ok (.iadd, 1) := by decide +kernel
theorem dL_law_389 : decode cL_law 389 = .ok (.iaload, 1) := by decide +kernel
theorem dL_law_390 : decode cL_law 390 = .ok (.aload_n 0, 1) := by decide +kernel
theorem dL_law_391 : decode cL_law 391 = .ok (.iload_n 3, 1) := by decide +kernel
theorem dL_law_392 : decode cL_law 392 = .ok (.iconst 4, 1) := by decide +kernel
theorem dL_law_393 : decode cL_law 393 = .ok (.iadd, 1) := by decide +kernel
theorem dL_law_394 : decode cL_law 394 = .ok (.iaload, 1) := by decide +kernel
theorem dL_law_395 : decode cL_law 395 = .ok (.invokevirtual 49, 3) := by decide +kernel
theorem dL_law_398 : decode cL_law 398 = .ok (.aload_n 2, 1) := by decide +kernel
theorem dL_law_399 : decode cL_law 399 = .ok (.aload_n 0, 1) := by decide +kernel
theorem dL_law_400 : decode cL_law 400 = .ok (.iload_n 3, 1) := by decide +kernel
theorem dL_law_401 : decode cL_law 401 = .ok (.iconst 1, 1) := by decide +kernel
theorem dL_law_402 : decode cL_law 402 = .ok (.iadd, 1) := by decide +kernel
theorem dL_law_403 : decode cL_law 403 = .ok (.iaload, 1) := by decide +kernel
theorem dL_law_404 : decode cL_law 404 = .ok (.aload_n 0, 1) := by decide +kernel
theorem dL_law_405 : decode cL_law 405 = .ok (.iload_n 3, 1) := by decide +kernel
theorem dL_law_406 : decode cL_law 406 = .ok (.iconst 2, 1) := by decide +kernel
theorem dL_law_407 : decode cL_law 407 = .ok (.iadd, 1) := by decide +kernel
theorem dL_law_408 : decode cL_law 408 = .ok (.iaload, 1) := by decide +kernel
theorem dL_law_409 : decode cL_law 409 = .ok (.aload_n 0, 1) := by decide +kernel
theorem dL_law_410 : decode cL_law 410 = .ok (.iload_n 3, 1) := by decide +kernel
theorem dL_law_411 : decode cL_law 411 = .ok (.iconst 3, 1) := by decide +kernel
theorem dL_law_412 : decode cL_law 412 = .ok (.iadd, 1) := by decide +kernel
theorem dL_law_413 : decode cL_law 413 = .ok (.iaload, 1) := by decide +kernel
theorem dL_law_414 : decode cL_law 414 = .ok (.aload_n 0, 1) := by decide +kernel
theorem dL_law_415 : decode cL_law 415 = .ok (.iload_n 3, 1) := by decide +kernel
theorem dL_law_416 : decode cL_law 416 = .ok (.iconst 4, 1) := by decide +kernel
theorem dL_law_417 : decode cL_law 417 = .ok (.iadd, 1) := by decide +kernel
theorem dL_law_418 : decode cL_law 418 = .ok (.iaload, 1) := by decide +kernel
theorem dL_law_419 : decode cL_law 419 = .ok (.invokevirtual 52, 3) := by decide +kernel
theorem dL_law_422 : decode cL_law 422 = .ok (.if_icmp .eq 467, 3) := by decide +kernel
theorem dL_law_425 : decode cL_law 425 = .ok (.iconst 0, 1) := by decide +kernel
theorem dL_law_426 : decode cL_law 426 = .ok (.ireturn, 1) := by decide +kernel
theorem dL_law_427 : decode cL_law 427 = .ok (.aload_n 1, 1) := by decide +kernel
theorem dL_law_428 : decode cL_law 428 = .ok (.aload_n 0, 1) := by decide +kernel
theorem dL_law_429 : decode cL_law 429 = .ok (.iload_n 3, 1) := by decide +kernel
theorem dL_law_430 : decode cL_law 430 = .ok (.iconst 1, 1) := by decide +kernel
theorem dL_law_431 : decode cL_law 431 = .ok (.iadd, 1) := by decide +kernel
theorem dL_law_432 : decode cL_law 432 = .ok (.iaload, 1) := by decide +kernel
theorem dL_law_433 : decode cL_law 433 = .ok (.aload_n 0, 1) := by decide +kernel
theorem dL_law_434 : decode cL_law 434 = .ok (.iload_n 3, 1) := by decide +kernel
theorem dL_law_435 : decode cL_law 435 = .ok (.iconst 2, 1) := by decide +kernel
theorem dL_law_436 : decode cL_law 436 = .ok (.iadd, 1) := by decide +kernel
theorem dL_law_437 : decode cL_law 437 = .ok (.iaload, 1) := by decide +kernel
theorem dL_law_438 : decode cL_law 438 = .ok (.aload_n 0, 1) := by decide +kernel
theorem dL_law_439 : decode cL_law 439 = .ok (.iload_n 3, 1) := by decide +kernel
theorem dL_law_440 : decode cL_law 440 = .ok (.iconst 3, 1) := by decide +kernel
theorem dL_law_441 : decode cL_law 441 = .ok (.iadd, 1) := by decide +kernel
theorem dL_law_442 : decode cL_law 442 = .ok (.iaload, 1) := by decide +kernel
theorem dL_law_443 : decode cL_law 443 = .ok (.aload_n 0, 1) := by decide +kernel
theorem dL_law_444 : decode cL_law 444 = .ok (.iload_n 3, 1) := by decide +kernel
theorem dL_law_445 : decode cL_law 445 = .ok (.iconst 4, 1) := by decide +kernel
theorem dL_law_446 : decode cL_law 446 = .ok (.iadd, 1) := by decide +kernel
theorem dL_law_447 : decode cL_law 447 = .ok (.iaload, 1) := by decide +kernel
theorem dL_law_448 : decode cL_law 448 = .ok (.invokevirtual 53, 3) := by decide +kernel
theorem dL_law_451 : decode cL_law 451 = .ok (.aload_n 2, 1) := by decide +kernel
theorem dL_law_452 : decode cL_law 452 = .ok (.aload_n 0, 1) := by decide +kernel
theorem dL_law_453 : decode cL_law 453 = .ok (.iload_n 3, 1) := by decide +kernel
theorem dL_law_454 : decode cL_law 454 = .ok (.iconst 1, 1) := by decide +kernel
theorem dL_law_455 : decode cL_law 455 = .ok (.iadd, 1) := by decide +kernel
theorem dL_law_456 : decode cL_law 456 = .ok (.iaload, 1) := by decide +kernel
theorem dL_law_457 : decode cL_law 457 = .ok (.aload_n 0, 1) := by decide +kernel
theorem dL_law_458 : decode cL_law 458 = .ok (.iload_n 3, 1) := by decide +kernel
theorem dL_law_459 : decode cL_law 459 = .ok (.iconst 2, 1) := by decide +kernel
theorem dL_law_460 : decode cL_law 460 = .ok (.iadd, 1) := by decide +kernel
theorem dL_law_461 : decode cL_law 461 = .ok (.iaload, 1) := by decide +kernel
theorem dL_law_462 : decode cL_law 462 = .ok (.aload_n 0, 1) := by decide +kernel
theorem dL_law_463 : decode cL_law 463 = .ok (.iload_n 3, 1) := by decide +kernel
theorem dL_law_464 : decode cL_law 464 = .ok (.iconst 3, 1) := by decide +kernel
theorem dL_law_465 : decode cL_law 465 = .ok (.iadd, 1) := by decide +kernel
theorem dL_law_466 : decode cL_law 466 = .ok (.iaload, 1) := by decide +kernel
theorem dL_law_467 : decode cL_law 467 = .ok (.aload_n 0, 1) := by decide +kernel
theorem dL_law_468 : decode cL_law 468 = .ok (.iload_n 3, 1) := by decide +kernel
theorem dL_law_469 : decode cL_law 469 = .ok (.iconst 4, 1) := by decide +kernel
theorem dL_law_470 : decode cL_law 470 = .ok (.iadd, 1) := by decide +kernel
theorem dL_law_471 : decode cL_law 471 = .ok (.iaload, 1) := by decide +kernel
theorem dL_law_472 : decode cL_law 472 = .ok (.invokevirtual 56, 3) := by decide +kernel
theorem dL_law_475 : decode cL_law 475 = .ok (.if_icmp .eq 414, 3) := by decide +kernel
theorem dL_law_478 : decode cL_law 478 = .ok (.iconst 0, 1) := by decide +kernel
theorem dL_law_479 : decode cL_law 479 = .ok (.ireturn, 1) := by decide +kernel
theorem dL_law_480 : decode cL_law 480 = .ok (.aload_n 1, 1) := by decide +kernel
theorem dL_law_481 : decode cL_law 481 = .ok (.aload_n 0, 1) := by decide +kernel
theorem dL_law_482 : decode cL_law 482 = .ok (.iload_n 3, 1) := by decide +kernel
theorem dL_law_483 : decode cL_law 483 = .ok (.iconst 1, 1) := by decide +kernel
theorem dL_law_484 : decode cL_law 484 = .ok (.iadd, 1) := by decide +kernel
theorem dL_law_485 : decode cL_law 485 = .ok (.iaload, 1) := by decide +kernel
theorem dL_law_486 : decode cL_law 486 = .ok (.aload_n 0, 1) := by decide +kernel
theorem dL_law_487 : decode cL_law 487 = .ok (.iload_n 3, 1) := by decide +kernel
theorem dL_law_488 : decode cL_law 488 = .ok (.iconst 2, 1) := by decide +kernel
theorem dL_law_489 : decode cL_law 489 = .ok (.iadd, 1) := by decide +kernel
theorem dL_law_490 : decode cL_law 490 = .ok (.iaload, 1) := by decide +kernel
theorem dL_law_491 : decode cL_law 491 = .ok (.invokevirtual 57, 3) := by decide +kernel
theorem dL_law_494 : decode cL_law 494 = .ok (.aload_n 2, 1) := by decide +kernel
theorem dL_law_495 : decode cL_law 495 = .ok (.aload_n 0, 1) := by decide +kernel
theorem dL_law_496 : decode cL_law 496 = .ok (.iload_n 3, 1) := by decide +kernel
theorem dL_law_497 : decode cL_law 497 = .ok (.iconst 1, 1) := by decide +kernel
theorem dL_law_498 : decode cL_law 498 = .ok (.iadd, 1) := by decide +kernel
theorem dL_law_499 : decode cL_law 499 = .ok (.iaload, 1) := by decide +kernel
theorem dL_law_500 : decode cL_law 500 = .ok (.aload_n 0, 1) := by decide +kernel
theorem dL_law_501 : decode cL_law 501 = .ok (.iload_n 3, 1) := by decide +kernel
theorem dL_law_502 : decode cL_law 502 = .ok (.iconst 2, 1) := by decide +kernel
theorem dL_law_503 : decode cL_law 503 = .ok (.iadd, 1) := by decide +kernel
theorem dL_law_504 : decode cL_law 504 = .ok (.iaload, 1) := by decide +kernel
theorem dL_law_505 : decode cL_law 505 = .ok (.invokevirtual 61, 3) := by decide +kernel
theorem dL_law_508 : decode cL_law 508 = .ok (.if_icmp .eq 381, 3) := by decide +kernel
theorem dL_law_511 : decode cL_law 511 = .ok (.iconst 0, 1) := by decide +kernel
theorem dL_law_512 : decode cL_law 512 = .ok (.ireturn, 1) := by decide +kernel
theorem dL_law_513 : decode cL_law 513 = .ok (.aload_n 1, 1) := by decide +kernel
theorem dL_law_514 : decode cL_law 514 = .ok (.aload_n 0, 1) := by decide +kernel
theorem dL_law_515 : decode cL_law 515 = .ok (.iload_n 3, 1) := by decide +kernel
theorem dL_law_516 : decode cL_law 516 = .ok (.iconst 1, 1) := by decide +kernel
theorem dL_law_517 : decode cL_law 517 = .ok (.iadd, 1) := by decide +kernel
theorem dL_law_518 : decode cL_law 518 = .ok (.iaload, 1) := by decide +kernel
theorem dL_law_519 : decode cL_law 519 = .ok (.aload_n 0, 1) := by decide +kernel
theorem dL_law_520 : decode cL_law 520 = .ok (.iload_n 3, 1) := by decide +kernel
theorem dL_law_521 : decode cL_law 521 = .ok (.iconst 2, 1) := by decide +kernel
theorem dL_law_522 : decode cL_law 522 = .ok (.iadd, 1) := by decide +kernel
theorem dL_law_523 : decode cL_law 523 = .ok (.iaload, 1) := by decide +kernel
theorem dL_law_524 : decode cL_law 524 = .ok (.aload_n 0, 1) := by decide +kernel
theorem dL_law_525 : decode cL_law 525 = .ok (.iload_n 3, 1) := by decide +kernel
theorem dL_law_526 : decode cL_law 526 = .ok (.iconst 3, 1) := by decide +kernel
theorem dL_law_527 : decode cL_law 527 = .ok (.iadd, 1) := by decide +kernel
theorem dL_law_528 : decode cL_law 528 = .ok (.iaload, 1) := by decide +kernel
theorem dL_law_529 : decode cL_law 529 = .ok (.invokevirtual 62, 3) := by decide +kernel
theorem dL_law_532 : decode cL_law 532 = .ok (.aload_n 2, 1) := by decide +kernel
theorem dL_law_533 : decode cL_law 533 = .ok (.aload_n 0, 1) := by decide +kernel
theorem dL_law_534 : decode cL_law 534 = .ok (.iload_n 3, 1) := by decide +kernel
theorem dL_law_535 : decode cL_law 535 = .ok (.iconst 1, 1) := by decide +kernel
theorem dL_law_536 : decode cL_law 536 = .ok (.iadd, 1) := by decide +kernel
theorem dL_law_537 : decode cL_law 537 = .ok (.iaload, 1) := by decide +kernel
theorem dL_law_538 : decode cL_law 538 = .ok (.aload_n 0, 1) := by decide +kernel
theorem dL_law_539 : decode cL_law 539 = .ok (.iload_n 3, 1) := by decide +kernel
theorem dL_law_540 : decode cL_law 540 = .ok (.iconst 2, 1) := by decide +kernel
theorem dL_law_541 : decode cL_law 541 = .ok (.iadd, 1) := by decide +kernel
theorem dL_law_542 : decode cL_law 542 = .ok (.iaload, 1) := by decide +kernel
theorem dL_law_543 : decode cL_law 543 = .ok (.aload_n 0, 1) := by decide +kernel
theorem dL_law_544 : decode cL_law 544 = .ok (.iload_n 3, 1) := by decide +kernel
theorem dL_law_545 : decode cL_law 545 = .ok (.iconst 3, 1) := by decide +kernel
theorem dL_law_546 : decode cL_law 546 = .ok (.iadd, 1) := by decide +kernel
theorem dL_law_547 : decode cL_law 547 = .ok (.iaload, 1) := by decide +kernel
theorem dL_law_548 : decode cL_law 548 = .ok (.invokevirtual 65, 3) := by decide +kernel
theorem dL_law_551 : decode cL_law 551 = .ok (.if_icmp .eq 338, 3) := by decide +kernel
theorem dL_law_554 : decode cL_law 554 = .ok (.iconst 0, 1) := by decide +kernel
theorem dL_law_555 : decode cL_law 555 = .ok (.ireturn, 1) := by decide +kernel
theorem dL_law_556 : decode cL_law 556 = .ok (.aload_n 1, 1) := by decide +kernel
theorem dL_law_557 : decode cL_law 557 = .ok (.aload_n 0, 1) := by decide +kernel
theorem dL_law_558 : decode cL_law 558 = .ok (.iload_n 3, 1) := by decide +kernel
theorem dL_law_559 : decode cL_law 559 = .ok (.iconst 1, 1) := by decide +kernel
theorem dL_law_560 : decode cL_law 560 = .ok (.iadd, 1) := by decide +kernel
theorem dL_law_561 : decode cL_law 561 = .ok (.iaload, 1) := by decide +kernel
theorem dL_law_562 : decode cL_law 562 = .ok (.aload_n 0, 1) := by decide +kernel
theorem dL_law_563 : decode cL_law 563 = .ok (.iload_n 3, 1) := by decide +kernel
theorem dL_law_564 : decode cL_law 564 = .ok (.iconst 2, 1) := by decide +kernel
theorem dL_law_565 : decode cL_law 565 = .ok (.iadd, 1) := by decide +kernel
theorem dL_law_566 : decode cL_law 566 = .ok (.iaload, 1) := by decide +kernel
theorem dL_law_567 : decode cL_law 567 = .ok (.invokevirtual 66, 3) := by decide +kernel
theorem dL_law_570 : decode cL_law 570 = .ok (.aload_n 2, 1) := by decide +kernel
theorem dL_law_571 : decode cL_law 571 = .ok (.aload_n 0, 1) := by decide +kernel
theorem dL_law_572 : decode cL_law 572 = .ok (.iload_n 3, 1) := by decide +kernel
theorem dL_law_573 : decode cL_law 573 = .ok (.iconst 1, 1) := by decide +kernel
theorem dL_law_574 : decode cL_law 574 = .ok (.iadd, 1) := by decide +kernel
theorem dL_law_575 : decode cL_law 575 = .ok (.iaload, 1) := by decide +kernel
theorem dL_law_576 : decode cL_law 576 = .ok (.aload_n 0, 1) := by decide +kernel
theorem dL_law_577 : decode cL_law 577 = .ok (.iload_n 3, 1) := by decide +kernel
theorem dL_law_578 : decode cL_law 578 = .ok (.iconst 2, 1) := by decide +kernel
theorem dL_law_579 : decode cL_law 579 = .ok (.iadd, 1) := by decide +kernel
theorem dL_law_580 : decode cL_law 580 = .ok (.iaload, 1) := by decide +kernel
theorem dL_law_581 : decode cL_law 581 = .ok (.invokevirtual 69, 3) := by decide +kernel
theorem dL_law_584 : decode cL_law 584 = .ok (.if_icmp .eq 305, 3) := by decide +kernel
theorem dL_law_587 : decode cL_law 587 = .ok (.iconst 0, 1) := by decide +kernel
theorem dL_law_588 : decode cL_law 588 = .ok (.ireturn, 1) := by decide +kernel
theorem dL_law_589 : decode cL_law 589 = .ok (.aload_n 1, 1) := by decide +kernel
theorem dL_law_590 : decode cL_law 590 = .ok (.aload_n 0, 1) := by decide +kernel
theorem dL_law_591 : decode cL_law 591 = .ok (.iload_n 3, 1) := by decide +kernel
theorem dL_law_592 : decode cL_law 592 = .ok (.iconst 1, 1) := by decide +kernel
theorem dL_law_593 : decode cL_law 593 = .ok (.iadd, 1) := by decide +kernel
theorem dL_law_594 : decode cL_law 594 = .ok (.iaload, 1) := by decide +kernel
theorem dL_law_595 : decode cL_law 595 = .ok (.aload_n 0, 1) := by decide +kernel
theorem dL_law_596 : decode cL_law 596 = .ok (.iload_n 3, 1) := by decide +kernel
theorem dL_law_597 : decode cL_law 597 = .ok (.iconst 2, 1) := by decide +kernel
theorem dL_law_598 : decode cL_law 598 = .ok (.iadd, 1) := by decide +kernel
theorem dL_law_599 : decode cL_law 599 = .ok (.iaload, 1) := by decide +kernel
theorem dL_law_600 : decode cL_law 600 = .ok (.aload_n 0, 1) := by decide +kernel
theorem dL_law_601 : decode cL_law 601 = .ok (.iload_n 3, 1) := by decide +kernel
theorem dL_law_602 : decode cL_law 602 = .ok (.iconst 3, 1) := by decide +kernel
theorem dL_law_603 : decode cL_law 603 = .ok (.iadd, 1) := by decide +kernel
theorem dL_law_604 : decode cL_law 604 = .ok (.iaload, 1) := by decide +kernel
theorem dL_law_605 : decode cL_law 605 = .ok (.invokevirtual 70, 3) := by decide +kernel
theorem dL_law_608 : decode cL_law 608 = .ok (.aload_n 2, 1) := by decide +kernel
theorem dL_law_609 : decode cL_law 609 = .ok (.aload_n 0, 1) := by decide +kernel
theorem dL_law_610 : decode cL_law 610 = .ok (.iload_n 3, 1) := by decide +kernel
theorem dL_law_611 : decode cL_law 611 = .ok (.iconst 1, 1) := by decide +kernel
theorem dL_law_612 : decode cL_law 612 = .ok (.iadd, 1) := by decide +kernel
theorem dL_law_613 : decode cL_law 613 = .ok (.iaload, 1) := by decide +kernel
theorem dL_law_614 : decode cL_law 614 = .ok (.aload_n 0, 1) := by decide +kernel
theorem dL_law_615 : decode cL_law 615 = .ok (.iload_n 3, 1) := by decide +kernel
theorem dL_law_616 : decode cL_law 616 = .ok (.iconst 2, 1) := by decide +kernel
theorem dL_law_617 : decode cL_law 617 = .ok (.iadd, 1) := by decide +kernel
theorem dL_law_618 : decode cL_law 618 = .ok (.iaload, 1) := by decide +kernel
theorem dL_law_619 : decode cL_law 619 = .ok (.aload_n 0, 1) := by decide +kernel
theorem dL_law_620 : decode cL_law 620 = .ok (.iload_n 3, 1) := by decide +kernel
theorem dL_law_621 : decode cL_law 621 = .ok (.iconst 3, 1) := by decide +kernel
theorem dL_law_622 : decode cL_law 622 = .ok (.iadd, 1) := by decide +kernel
theorem dL_law_623 : decode cL_law 623 = .ok (.iaload, 1) := by decide +kernel
theorem dL_law_624 : decode cL_law 624 = .ok (.invokevirtual 73, 3) := by decide +kernel
theorem dL_law_627 : decode cL_law 627 = .ok (.if_icmp .eq 262, 3) := by decide +kernel
theorem dL_law_630 : decode cL_law 630 = .ok (.iconst 0, 1) := by decide +kernel
theorem dL_law_631 : decode cL_law 631 = .ok (.ireturn, 1) := by decide +kernel
theorem dL_law_632 : decode cL_law 632 = .ok (.aload_n 1, 1) := by decide +kernel
theorem dL_law_633 : decode cL_law 633 = .ok (.aload_n 0, 1) := by decide +kernel
theorem dL_law_634 : decode cL_law 634 = .ok (.iload_n 3, 1) := by decide +kernel
theorem dL_law_635 : decode cL_law 635 = .ok (.iconst 1, 1) := by decide +kernel
theorem dL_law_636 : decode cL_law 636 = .ok (.iadd, 1) := by decide +kernel
theorem dL_law_637 : decode cL_law 637 = .ok (.iaload, 1) := by decide +kernel
theorem dL_law_638 : decode cL_law 638 = .ok (.aload_n 0, 1) := by decide +kernel
theorem dL_law_639 : decode cL_law 639 = .ok (.iload_n 3, 1) := by decide +kernel
theorem dL_law_640 : decode cL_law 640 = .ok (.iconst 2, 1) := by decide +kernel
theorem dL_law_641 : decode cL_law 641 = .ok (.iadd, 1) := by decide +kernel
theorem dL_law_642 : decode cL_law 642 = .ok (.iaload, 1) := by decide +kernel
theorem dL_law_643 : decode cL_law 643 = .ok (.aload_n 0, 1) := by decide +kernel
theorem dL_law_644 : decode cL_law 644 = .ok (.iload_n 3, 1) := by decide +kernel
theorem dL_law_645 : decode cL_law 645 = .ok (.iconst 3, 1) := by decide +kernel
theorem dL_law_646 : decode cL_law 646 = .ok (.iadd, 1) := by decide +kernel
theorem dL_law_647 : decode cL_law 647 = .ok (.iaload, 1) := by decide +kernel
theorem dL_law_648 : decode cL_law 648 = .ok (.aload_n 0, 1) := by decide +kernel
theorem dL_law_649 : decode cL_law 649 = .ok (.iload_n 3, 1) := by decide +kernel
theorem dL_law_650 : decode cL_law 650 = .ok (.iconst 4, 1) := by decide +kernel
theorem dL_law_651 : decode cL_law 651 = .ok (.iadd, 1) := by decide +kernel
theorem dL_law_652 : decode cL_law 652 = .ok (.iaload, 1) := by decide +kernel
theorem dL_law_653 : decode cL_law 653 = .ok (.invokevirtual 74, 3) := by decide +kernel
theorem dL_law_656 : decode cL_law 656 = .ok (.aload_n 2, 1) := by decide +kernel
theorem dL_law_657 : decode cL_law 657 = .ok (.aload_n 0, 1) := by decide +kernel
theorem dL_law_658 : decode cL_law 658 = .ok (.iload_n 3, 1) := by decide +kernel
theorem dL_law_659 : decode cL_law 659 = .ok (.iconst 1, 1) := by decide +kernel
theorem dL_law_660 : decode cL_law 660 = .ok (.iadd, 1) := by decide +kernel
theorem dL_law_661 : decode cL_law 661 = .ok (.iaload, 1) := by decide +kernel
theorem dL_law_662 : decode cL_law 662 = .ok (.aload_n 0, 1) := by decide +kernel
theorem dL_law_663 : decode cL_law 663 = .ok (.iload_n 3, 1) := by decide +kernel
theorem dL_law_664 : decode cL_law 664 = .ok (.iconst 2, 1) := by decide +kernel
theorem dL_law_665 : decode cL_law 665 = .ok (.iadd, 1) := by decide +kernel
theorem dL_law_666 : decode cL_law 666 = .ok (.iaload, 1) := by decide +kernel
theorem dL_law_667 : decode cL_law 667 = .ok (.aload_n 0, 1) := by decide +kernel
theorem dL_law_668 : decode cL_law 668 = .ok (.iload_n 3, 1) := by decide +kernel
theorem dL_law_669 : decode cL_law 669 = .ok (.iconst 3, 1) := by decide +kernel
theorem dL_law_670 : decode cL_law 670 = .ok (.iadd, 1) := by decide +kernel
theorem dL_law_671 : decode cL_law 671 = .ok (.iaload, 1) := by decide +kernel
theorem dL_law_672 : decode cL_law 672 = .ok (.aload_n 0, 1) := by decide +kernel
theorem dL_law_673 : decode cL_law 673 = .ok (.iload_n 3, 1) := by decide +kernel
theorem dL_law_674 : decode cL_law 674 = .ok (.iconst 4, 1) := by decide +kernel
theorem dL_law_675 : decode cL_law 675 = .ok (.iadd, 1) := by decide +kernel
theorem dL_law_676 : decode cL_law 676 = .ok (.iaload, 1) := by decide +kernel
theorem dL_law_677 : decode cL_law 677 = .ok (.invokevirtual 77, 3) := by decide +kernel
theorem dL_law_680 : decode cL_law 680 = .ok (.if_icmp .eq 209, 3) := by decide +kernel
theorem dL_law_683 : decode cL_law 683 = .ok (.iconst 0, 1) := by decide +kernel
theorem dL_law_684 : decode cL_law 684 = .ok (.ireturn, 1) := by decide +kernel
theorem dL_law_685 : decode cL_law 685 = .ok (.aload_n 1, 1) := by decide +kernel
theorem dL_law_686 : decode cL_law 686 = .ok (.aload_n 0, 1) := by decide +kernel
theorem dL_law_687 : decode cL_law 687 = .ok (.iload_n 3, 1) := by decide +kernel
theorem dL_law_688 : decode cL_law 688 = .ok (.iconst 1, 1) := by decide +kernel
theorem dL_law_689 : decode cL_law 689 = .ok (.iadd, 1) := by decide +kernel
theorem dL_law_690 : decode cL_law 690 = .ok (.iaload, 1) := by decide +kernel
theorem dL_law_691 : decode cL_law 691 = .ok (.aload_n 0, 1) := by decide +kernel
theorem dL_law_692 : decode cL_law 692 = .ok (.iload_n 3, 1) := by decide +kernel
theorem dL_law_693 : decode cL_law 693 = .ok (.iconst 2, 1) := by decide +kernel
theorem dL_law_694 : decode cL_law 694 = .ok (.iadd, 1) := by decide +kernel
theorem dL_law_695 : decode cL_law 695 = .ok (.iaload, 1) := by decide +kernel
theorem dL_law_696 : decode cL_law 696 = .ok (.aload_n 0, 1) := by decide +kernel
theorem dL_law_697 : decode cL_law 697 = .ok (.iload_n 3, 1) := by decide +kernel
theorem dL_law_698 : decode cL_law 698 = .ok (.iconst 3, 1) := by decide +kernel
theorem dL_law_699 : decode cL_law 699 = .ok (.iadd, 1) := by decide +kernel
theorem dL_law_700 : decode cL_law 700 = .ok (.iaload, 1) := by decide +kernel
theorem dL_law_701 : decode cL_law 701 = .ok (.aload_n 0, 1) := by decide +kernel
theorem dL_law_702 : decode cL_law 702 = .ok (.iload_n 3, 1) := by decide +kernel
theorem dL_law_703 : decode cL_law 703 = .ok (.iconst 4, 1) := by decide +kernel
theorem dL_law_704 : decode cL_law 704 = .ok (.iadd, 1) := by decide +kernel
theorem dL_law_705 : decode cL_law 705 = .ok (.iaload, 1) := by decide +kernel
theorem dL_law_706 : decode cL_law 706 = .ok (.invokevirtual 78, 3) := by decide +kernel
theorem dL_law_709 : decode cL_law 709 = .ok (.aload_n 2, 1) := by decide +kernel
theorem dL_law_710 : decode cL_law 710 = .ok (.aload_n 0, 1) := by decide +kernel
theorem dL_law_711 : decode cL_law 711 = .ok (.iload_n 3, 1) := by decide +kernel
theorem dL_law_712 : decode cL_law 712 = .ok (.iconst 1, 1) := by decide +kernel
theorem dL_law_713 : decode cL_law 713 = .ok (.iadd, 1) := by decide +kernel
theorem dL_law_714 : decode cL_law 714 = .ok (.iaload, 1) := by decide +kernel
theorem dL_law_715 : decode cL_law 715 = .ok (.aload_n 0, 1) := by decide +kernel
theorem dL_law_716 : decode cL_law 716 = .ok (.iload_n 3, 1) := by decide +kernel
theorem dL_law_717 : decode cL_law 717 = .ok (.iconst 2, 1) := by decide +kernel
theorem dL_law_718 : decode cL_law 718 = .ok (.iadd, 1) := by decide +kernel
theorem dL_law_719 : decode cL_law 719 = .ok (.iaload, 1) := by decide +kernel
theorem dL_law_720 : decode cL_law 720 = .ok (.aload_n 0, 1) := by decide +kernel
theorem dL_law_721 : decode cL_law 721 = .ok (.iload_n 3, 1) := by decide +kernel
theorem dL_law_722 : decode cL_law 722 = .ok (.iconst 3, 1) := by decide +kernel
theorem dL_law_723 : decode cL_law 723 = .ok (.iadd, 1) := by decide +kernel
theorem dL_law_724 : decode cL_law 724 = .ok (.iaload, 1) := by decide +kernel
theorem dL_law_725 : decode cL_law 725 = .ok (.aload_n 0, 1) := by decide +kernel
theorem dL_law_726 : decode cL_law 726 = .ok (.iload_n 3, 1) := by decide +kernel
theorem dL_law_727 : decode cL_law 727 = .ok (.iconst 4, 1) := by decide +kernel
theorem dL_law_728 : decode cL_law 728 = .ok (.iadd, 1) := by decide +kernel
theorem dL_law_729 : decode cL_law 729 = .ok (.iaload, 1) := by decide +kernel
theorem dL_law_730 : decode cL_law 730 = .ok (.invokevirtual 81, 3) := by decide +kernel
theorem dL_law_733 : decode cL_law 733 = .ok (.if_icmp .eq 156, 3) := by decide +kernel
theorem dL_law_736 : decode cL_law 736 = .ok (.iconst 0, 1) := by decide +kernel
theorem dL_law_737 : decode cL_law 737 = .ok (.ireturn, 1) := by decide +kernel
theorem dL_law_738 : decode cL_law 738 = .ok (.aload_n 1, 1) := by decide +kernel
theorem dL_law_739 : decode cL_law 739 = .ok (.aload_n 0, 1) := by decide +kernel
theorem dL_law_740 : decode cL_law 740 = .ok (.iload_n 3, 1) := by decide +kernel
theorem dL_law_741 : decode cL_law 741 = .ok (.iconst 1, 1) := by decide +kernel
theorem dL_law_742 : decode cL_law 742 = .ok (.iadd, 1) := by decide +kernel
theorem dL_law_743 : decode cL_law 743 = .ok (.iaload, 1) := by decide +kernel
theorem dL_law_744 : decode cL_law 744 = .ok (.invokevirtual 82, 3) := by decide +kernel
theorem dL_law_747 : decode cL_law 747 = .ok (.aload_n 2, 1) := by decide +kernel
theorem dL_law_748 : decode cL_law 748 = .ok (.aload_n 0, 1) := by decide +kernel
theorem dL_law_749 : decode cL_law 749 = .ok (.iload_n 3, 1) := by decide +kernel
theorem dL_law_750 : decode cL_law 750 = .ok (.iconst 1, 1) := by decide +kernel
theorem dL_law_751 : decode cL_law 751 = .ok (.iadd, 1) := by decide +kernel
theorem dL_law_752 : decode cL_law 752 = .ok (.iaload, 1) := by decide +kernel
theorem dL_law_753 : decode cL_law 753 = .ok (.invokevirtual 85, 3) := by decide +kernel
theorem dL_law_756 : decode cL_law 756 = .ok (.if_icmp .eq 133, 3) := by decide +kernel
theorem dL_law_759 : decode cL_law 759 = .ok (.iconst 0, 1) := by decide +kernel
theorem dL_law_760 : decode cL_law 760 = .ok (.ireturn, 1) := by decide +kernel
theorem dL_law_761 : decode cL_law 761 = .ok (.aload_n 1, 1) := by decide +kernel
theorem dL_law_762 : decode cL_law 762 = .ok (.aload_n 0, 1) := by decide +kernel
theorem dL_law_763 : decode cL_law 763 = .ok (.iload_n 3, 1) := by decide +kernel
theorem dL_law_764 : decode cL_law 764 = .ok (.iconst 1, 1) := by decide +kernel
theorem dL_law_765 : decode cL_law 765 = .ok (.iadd, 1) := by decide +kernel
theorem dL_law_766 : decode cL_law 766 = .ok (.iaload, 1) := by decide +kernel
theorem dL_law_767 : decode cL_law 767 = .ok (.aload_n 0, 1) := by decide +kernel
theorem dL_law_768 : decode cL_law 768 = .ok (.iload_n 3, 1) := by decide +kernel
theorem dL_law_769 : decode cL_law 769 = .ok (.iconst 2, 1) := by decide +kernel
theorem dL_law_770 : decode cL_law 770 = .ok (.iadd, 1) := by decide +kernel
theorem dL_law_771 : decode cL_law 771 = .ok (.iaload, 1) := by decide +kernel
theorem dL_law_772 : decode cL_law 772 = .ok (.invokevirtual 86, 3) := by decide +kernel
theorem dL_law_775 : decode cL_law 775 = .ok (.aload_n 2, 1) := by decide +kernel
theorem dL_law_776 : decode cL_law 776 = .ok (.aload_n 0, 1) := by decide +kernel
theorem dL_law_777 : decode cL_law 777 = .ok (.iload_n 3, 1) := by decide +kernel
theorem dL_law_778 : decode cL_law 778 = .ok (.iconst 1, 1) := by decide +kernel
theorem dL_law_779 : decode cL_law 779 = .ok (.iadd, 1) := by decide +kernel
theorem dL_law_780 : decode cL_law 780 = .ok (.iaload, 1) := by decide +kernel
theorem dL_law_781 : decode cL_law 781 = .ok (.aload_n 0, 1) := by decide +kernel
theorem dL_law_782 : decode cL_law 782 = .ok (.iload_n 3, 1) := by decide +kernel
theorem dL_law_783 : decode cL_law 783 = .ok (.iconst 2, 1) := by decide +kernel
theorem dL_law_784 : decode cL_law 784 = .ok (.iadd, 1) := by decide +kernel
theorem dL_law_785 : decode cL_law 785 = .ok (.iaload, 1) := by decide +kernel
theorem dL_law_786 : decode cL_law 786 = .ok (.invokevirtual 89, 3) := by decide +kernel
theorem dL_law_789 : decode cL_law 789 = .ok (.if_icmp .eq 100, 3) := by decide +kernel
theorem dL_law_792 : decode cL_law 792 = .ok (.iconst 0, 1) := by decide +kernel
theorem dL_law_793 : decode cL_law 793 = .ok (.ireturn, 1) := by decide +kernel
theorem dL_law_794 : decode cL_law 794 = .ok (.aload_n 1, 1) := by decide +kernel
theorem dL_law_795 : decode cL_law 795 = .ok (.invokevirtual 90, 3) := by decide +kernel
theorem dL_law_798 : decode cL_law 798 = .ok (.aload_n 2, 1) := by decide +kernel
theorem dL_law_799 : decode cL_law 799 = .ok (.invokevirtual 93, 3) := by decide +kernel
theorem dL_law_802 : decode cL_law 802 = .ok (.if_icmp .eq 87, 3) := by decide +kernel
theorem dL_law_805 : decode cL_law 805 = .ok (.iconst 0, 1) := by decide +kernel
theorem dL_law_806 : decode cL_law 806 = .ok (.ireturn, 1) := by decide +kernel
theorem dL_law_807 : decode cL_law 807 = .ok (.aload_n 1, 1) := by decide +kernel
theorem dL_law_808 : decode cL_law 808 = .ok (.invokevirtual 94, 3) := by decide +kernel
theorem dL_law_811 : decode cL_law 811 = .ok (.aload_n 2, 1) := by decide +kernel
theorem dL_law_812 : decode cL_law 812 = .ok (.invokevirtual 97, 3) := by decide +kernel
theorem dL_law_815 : decode cL_law 815 = .ok (.if_icmp .eq 74, 3) := by decide +kernel
theorem dL_law_818 : decode cL_law 818 = .ok (.iconst 0, 1) := by decide +kernel
theorem dL_law_819 : decode cL_law 819 = .ok (.ireturn, 1) := by decide +kernel
theorem dL_law_820 : decode cL_law 820 = .ok (.aload_n 1, 1) := by decide +kernel
theorem dL_law_821 : decode cL_law 821 = .ok (.aload_n 0, 1) := by decide +kernel
theorem dL_law_822 : decode cL_law 822 = .ok (.iload_n 3, 1) := by decide +kernel
theorem dL_law_823 : decode cL_law 823 = .ok (.iconst 1, 1) := by decide +kernel
theorem dL_law_824 : decode cL_law 824 = .ok (.iadd, 1) := by decide +kernel
theorem dL_law_825 : decode cL_law 825 = .ok (.iaload, 1) := by decide +kernel
theorem dL_law_826 : decode cL_law 826 = .ok (.invokevirtual 98, 3) := by decide +kernel
theorem dL_law_829 : decode cL_law 829 = .ok (.aload_n 2, 1) := by decide +kernel
theorem dL_law_830 : decode cL_law 830 = .ok (.aload_n 0, 1) := by decide +kernel
theorem dL_law_831 : decode cL_law 831 = .ok (.iload_n 3, 1) := by decide +kernel
theorem dL_law_832 : decode cL_law 832 = .ok (.iconst 1, 1) := by decide +kernel
theorem dL_law_833 : decode cL_law 833 = .ok (.iadd, 1) := by decide +kernel
theorem dL_law_834 : decode cL_law 834 = .ok (.iaload, 1) := by decide +kernel
theorem dL_law_835 : decode cL_law 835 = .ok (.invokevirtual 101, 3) := by decide +kernel
theorem dL_law_838 : decode cL_law 838 = .ok (.if_icmp .eq 51, 3) := by decide +kernel
theorem dL_law_841 : decode cL_law 841 = .ok (.iconst 0, 1) := by decide +kernel
theorem dL_law_842 : decode cL_law 842 = .ok (.ireturn, 1) := by decide +kernel
theorem dL_law_843 : decode cL_law 843 = .ok (.aload_n 1, 1) := by decide +kernel
theorem dL_law_844 : decode cL_law 844 = .ok (.aload_n 0, 1) := by decide +kernel
theorem dL_law_845 : decode cL_law 845 = .ok (.iload_n 3, 1) := by decide +kernel
theorem dL_law_846 : decode cL_law 846 = .ok (.iconst 1, 1) := by decide +kernel
theorem dL_law_847 : decode cL_law 847 = .ok (.iadd, 1) := by decide +kernel
theorem dL_law_848 : decode cL_law 848 = .ok (.iaload, 1) := by decide +kernel
theorem dL_law_849 : decode cL_law 849 = .ok (.invokevirtual 102, 3) := by decide +kernel
theorem dL_law_852 : decode cL_law 852 = .ok (.aload_n 2, 1) := by decide +kernel
theorem dL_law_853 : decode cL_law 853 = .ok (.aload_n 0, 1) := by decide +kernel
theorem dL_law_854 : decode cL_law 854 = .ok (.iload_n 3, 1) := by decide +kernel
theorem dL_law_855 : decode cL_law 855 = .ok (.iconst 1, 1) := by decide +kernel
theorem dL_law_856 : decode cL_law 856 = .ok (.iadd, 1) := by decide +kernel
theorem dL_law_857 : decode cL_law 857 = .ok (.iaload, 1) := by decide +kernel
theorem dL_law_858 : decode cL_law 858 = .ok (.invokevirtual 105, 3) := by decide +kernel
theorem dL_law_861 : decode cL_law 861 = .ok (.if_icmp .eq 28, 3) := by decide +kernel
theorem dL_law_864 : decode cL_law 864 = .ok (.iconst 0, 1) := by decide +kernel
theorem dL_law_865 : decode cL_law 865 = .ok (.ireturn, 1) := by decide +kernel
theorem dL_law_866 : decode cL_law 866 = .ok (.aload_n 1, 1) := by decide +kernel
theorem dL_law_867 : decode cL_law 867 = .ok (.aload_n 0, 1) := by decide +kernel
theorem dL_law_868 : decode cL_law 868 = .ok (.iload_n 3, 1) := by decide +kernel
theorem dL_law_869 : decode cL_law 869 = .ok (.iconst 1, 1) := by decide +kernel
theorem dL_law_870 : decode cL_law 870 = .ok (.iadd, 1) := by decide +kernel
theorem dL_law_871 : decode cL_law 871 = .ok (.iaload, 1) := by decide +kernel
theorem dL_law_872 : decode cL_law 872 = .ok (.invokevirtual 106, 3) := by decide +kernel
theorem dL_law_875 : decode cL_law 875 = .ok (.aload_n 2, 1) := by decide +kernel
theorem dL_law_876 : decode cL_law 876 = .ok (.aload_n 0, 1) := by decide +kernel
theorem dL_law_877 : decode cL_law 877 = .ok (.iload_n 3, 1) := by decide +kernel
theorem dL_law_878 : decode cL_law 878 = .ok (.iconst 1, 1) := by decide +kernel
theorem dL_law_879 : decode cL_law 879 = .ok (.iadd, 1) := by decide +kernel
theorem dL_law_880 : decode cL_law 880 = .ok (.iaload, 1) := by decide +kernel
theorem dL_law_881 : decode cL_law 881 = .ok (.invokevirtual 109, 3) := by decide +kernel
theorem dL_law_884 : decode cL_law 884 = .ok (.if_icmp .eq 5, 3) := by decide +kernel
theorem dL_law_887 : decode cL_law 887 = .ok (.iconst 0, 1) := by decide +kernel
theorem dL_law_888 : decode cL_law 888 = .ok (.ireturn, 1) := by decide +kernel
theorem dL_law_889 : decode cL_law 889 = .ok (.iinc 3 5, 3) := by decide +kernel
theorem dL_law_892 : decode cL_law 892 = .ok (.goto (-874), 3) := by decide +kernel
theorem dL_law_895 : decode cL_law 895 = .ok (.iconst 1, 1) := by decide +kernel
theorem dL_law_896 : decode cL_law 896 = .ok (.ireturn, 1) := by decide +kernel
